-- the reference's reading of a sum
section MA
variable {B : Nat → Int} {n k : Nat} {st ln : Nat → Nat} {pays : Bool} {x0 cs0 : Nat}
def LT (B : Nat → Int) (n k : Nat) (st ln : Nat → Nat) (g : Nat → Nat → Int) : Prop := g 134 4 = (n : Int) ∧ n ≤ 300 ∧ (∀ j, j < 300 → 0 ≤ B j ∧ B j ≤ 255) ∧ g 138 = B ∧ LX B k n st ln
def srtP (pays : Bool) (g : Nat → Nat → Int) : Prop := (0 ≤ g 134 14 ∧ g 134 14 ≤ 2) ∧ (g 134 14 = 2 ↔ pays = true)
theorem LT.k3 {g : Nat → Nat → Int} (h : LT B n k st ln g) : k ≤ 300 := by have := h.2.2.2.2.2.2.2.2.2; have := h.2.1; omega
theorem LT.fr {g g' : Nat → Nat → Int} (h : LT B n k st ln g) (f : SuF x0 cs0 g g') : LT B n k st ln g' := by
  unfold LT
  rw [f.2.1 4 (by decide) (by decide) (by decide) (by decide) (by decide), f.1 138 (by decide) (by decide) (by decide)]
  exact h
def Sm (B : Nat → Int) (n k : Nat) (st ln : Nat → Nat) (pays : Bool) (x0 cs0 : Nat) (g : Nat → Nat → Int) (t : Nat) (P : List Int) (C : List (Int × Int)) (op wh : Int) : Prop := LT B n k st ln g ∧ srtP pays g ∧ TkR B n k st ln (g 134) t ∧ Rf x0 cs0 g P C op ∧ g 134 18 = wh
theorem srtP.fr {g g' : Nat → Nat → Int} (h : srtP pays g) (f : SuF x0 cs0 g g') : srtP pays g' := by
  unfold srtP
  rw [f.2.1 14 (by decide) (by decide) (by decide) (by decide) (by decide)]
  exact h
theorem Rf.fr {g g' : Nat → Nat → Int} {P : List Int} {C : List (Int × Int)} {op : Int} (h : Rf x0 cs0 g P C op) (e : ∀ q, q ≠ 134 → g' q = g q) (e2 : ∀ j, j = 12 ∨ j = 13 ∨ j = 16 ∨ j = 17 → g' 134 j = g 134 j) : Rf x0 cs0 g' P C op := by
  obtain ⟨h1, h2, h3, h4, h5, h6⟩ := h
  exact ⟨by rw [e2 12 (by decide)]; exact h1, by rw [e2 16 (by decide)]; exact h2, h3.fr fun i _ => by rw [e 139 (by decide)], by rw [e2 17 (by decide)]; exact h4, by rw [e2 13 (by decide)]; exact h5, fun i hi => by rw [e 137 (by decide)]; exact h6 i hi⟩
theorem c_nextT {d : Nat} {dd : List (Nat × Nat)} {sh : Nat → Nat → Nat} {g : Nat → Nat → Int} {K : (Nat → Nat → Int) → Prop} {t : Nat} (hL : LT B n k st ln g) (hT : TkR B n k st ln (g 134) t) (hk : 2 ≤ kdF B k st ln t) (hK : ∀ g', (∀ q, q ≠ 134 → g' q = g q) → (∀ j, j < 7 ∨ 11 < j → g' 134 j = g 134 j) → TkR B n k st ln (g' 134) (t + 1) → K g') : cV (d + 2) m_X12_nextToken [(vR 134)] dd sh g K := by
  obtain ⟨l1, l2, l3, l4, l5⟩ := hL
  obtain ⟨t1, t2⟩ := hT.next hk
  obtain ⟨g1, g2⟩ := l5.gap t1
  subst l4
  exact s_X12_nextToken (t := t + 1) (k := k) (st := st) (ln := ln) l1 l2 l3 l5 (by omega) t2 g1 g2 hK
theorem suf134 {g g' : Nat → Nat → Int} (e : ∀ q, q ≠ 134 → g' q = g q) (e2 : ∀ j, j < 7 ∨ 11 < j → j ≠ 13 → j ≠ 16 → j ≠ 17 → j ≠ 18 → g' 134 j = g 134 j) : SuF x0 cs0 g g' := ⟨fun q q1 _ _ => e q q1, fun j a b c d e => e2 j a b c d e, fun i _ => by rw [e 137 (by decide)]⟩
theorem m_fin {d : Nat} {dd : List (Nat × Nat)} {sh : Nat → Nat → Nat} {g : Nat → Nat → Int} {K : Int → (Nat → Nat → Int) → Prop} {t : Nat} {P : List Int} {C : List (Int × Int)} {op s1 v : Int} (hS : Sm B n k st ln pays x0 cs0 g t P C op 0) (hk : 2 ≤ kdF B k st ln t) (hb : cs0 + C.length + npc P ≤ t) (hP : P.length ≤ 140) (hK : ∀ g', SuF x0 cs0 g g' → Sm B n k st ln pays x0 cs0 g' (t + 1) (stl 3 P (C ++ [(s1, v)]) op).1 (stl 3 P (C ++ [(s1, v)]) op).2.1 (stl 3 P (C ++ [(s1, v)]) op).2.2 1 → K 0 g') : rI (d + 6) m_X12_beginOne 81 [some (vR 134), none] [(vI v), (vI s1), (vR 134)] dd sh g K := by
  obtain ⟨hL, hs, hT, hR, hw⟩ := hS
  have hk300 := hL.k3
  have htk := (hT.next hk).1
  refine r_X12_beginOne_81 ?_
  refine s_X12_emit (d := d + 5) hR (by omega) fun g1 f1 o1 j1 hR1 => ?_
  have hT1 : TkR B n k st ln (g1 134) t := hT.fr fun j _ _ => j1 j (by omega)
  refine c_nextT (d := d + 4) (hL.fr f1) hT1 hk fun g2 o2 j2 hT2 => ?_
  have e18 : SuF x0 cs0 g1 (up g2 134 18 1) := suf134 (fun q hq => by rw [up_off hq]; exact o2 q hq) (fun j a b c d e => by rw [up_at, if_neg e]; exact j2 j a)
  have hR2 : Rf x0 cs0 (up g2 134 18 1) P (C ++ [(s1, v)]) op := hR1.fr (fun q hq => by rw [up_off hq]; exact o2 q hq) (fun j hj => by rw [up_at, if_neg (by omega)]; exact j2 j (by omega))
  have l1 : (C ++ [(s1, v)]).length = C.length + 1 := by simp
  refine c_settle (d := d + 4) (by decide) hR2 (by omega) (by omega) fun g3 f3 j3 hR3 => ?_
  have f13 := f1.tr (e18.tr f3)
  refine hK g3 f13 ⟨hL.fr f13, hs.fr f13, ?_, hR3, ?_⟩
  · exact hT2.fr fun j _ _ => by rw [j3 j (by omega) (by omega) (by omega), up_at, if_neg (by omega)]
  · rw [j3 18 (by decide) (by decide) (by decide), up_at, if_pos rfl]
theorem s_X12_isOf {d : Nat} {dd : List (Nat × Nat)} {sh : Nat → Nat → Nat} {g : Nat → Nat → Int} {K : Int → (Nat → Nat → Int) → Prop} {w : Nat} {it : Bool} {P : List Int} {C : List (Int × Int)} {op : Int} (hs : srtP pays g) (hR : Rf x0 cs0 g P C op) (h150 : P.length ≤ 150) (hit : it = true ↔ 2 ∈ P) (hw : w ≤ 8) (hK : ¬ no5 w pays it → K 1 g) (hK0 : no5 w pays it → K 0 g) : cI (d + 2) m_X12_isOf [(vR 134), (vI (w : Int))] dd sh g K := by
  refine mkI (ls := [some (vR 134), some (vI ((w : Int)))]) rfl rfl rfl rfl rfl (r_X12_isOf_0 ?_)
  obtain ⟨s1, s2⟩ := hs
  refine ⟨⟨by omega, by omega⟩, fun h5 => hK fun x => ?_, fun h5 => ⟨fun h8 => ?_, fun h8 => ⟨⟨by omega, by omega⟩, fun hp => hK0 (Or.inl ⟨by omega, by omega, s2.mp (by omega)⟩), fun hp => hK fun x => ?_⟩⟩⟩
  · rcases x with x | x <;> omega
  · have ew : w = 8 := by omega
    refine s_X12_isTotalling (d := d) hR h150 (fun h2 => ⟨⟨by decide, by decide⟩, fun h => absurd h (by decide), fun _ => hK fun x => ?_⟩) (fun h2 => ⟨⟨by decide, by decide⟩, fun _ => hK0 (Or.inr ⟨ew, ?_⟩), fun h => absurd rfl h⟩)
    · rcases x with x | x
      · omega
      · rw [hit.mpr h2] at x; exact absurd x.2 (by decide)
    · cases it
      · rfl
      · exact absurd (hit.mp rfl) h2
  · rcases x with x | x
    · have := s2.mpr x.2.2; omega
    · omega
/-- the summed loop's continuation behind beginOne -/
def K1 (d : Nat) (dd : List (Nat × Nat)) (sh : Nat → Nat → Nat) (K : Int → (Nat → Nat → Int) → Prop) : Int → (Nat → Nat → Int) → Prop := fun r3 g4 => (i32 r3) ∧ ((r3 = 0 → rI d m_X12_summed 15 [some (vR 134), none] [] dd sh g4 K) ∧ (¬ r3 = 0 → K r3 g4))
theorem m_begin {d : Nat} {dd : List (Nat × Nat)} {sh : Nat → Nat → Nat} {g : Nat → Nat → Int} {K : Int → (Nat → Nat → Int) → Prop} {t : Nat} {it : Bool} {P : List Int} {C : List (Int × Int)} {op : Int} (hS : Sm B n k st ln pays x0 cs0 g t P C op 0) (hit : it = true ↔ 2 ∈ P) (hb : cs0 + C.length + npc P ≤ t) (hP : P.length ≤ 140)
    (hbad : ∀ f p, Leaf (kdF B k st ln) (vlF B k st ln) pays it t (.inl (f, p)) → K f g) (hok : ∀ c g', Leaf (kdF B k st ln) (vlF B k st ln) pays it t (.inr (t + 1, c)) → SuF x0 cs0 g g' → Sm B n k st ln pays x0 cs0 g' (t + 1) (stl 3 P (C ++ c) op).1 (stl 3 P (C ++ c) op).2.1 (stl 3 P (C ++ c) op).2.2 1 → rI (d + 7) m_X12_summed 15 [some (vR 134), none] [] dd sh g' K)
    (hopen : ∀ x, (kdF B k st ln t = 7 ∧ x = 40) ∨ (kdF B k st ln t = 4 ∧ x = 3) ∨ (kdF B k st ln t = 29 ∧ x = 2) → cI (d + 6) m_X12_opened [(vR 134), (vI x)] dd sh g (K1 (d + 7) dd sh K)) : rI (d + 7) m_X12_summed 15 [some (vR 134), none] [] dd sh g K := by
  obtain ⟨hL, hs, hT, hR, hw⟩ := id hS
  have i9 := hT.i9 hL.2.2.1 hL.2.1 hL.2.2.2.2
  obtain ⟨m3, m4, m5, m6, m7, m8, m9, m1, m0⟩ := hT.m9
  refine r_X12_summed_15 ?_
  rw [hw]
  refine ⟨⟨by decide, by decide⟩, fun _ => ?_, fun h => absurd rfl h⟩
  show cI (d + 7) m_X12_beginOne [vR 134] dd sh g (K1 (d + 7) dd sh K)
  have kbad : ∀ f, 1 ≤ f ∧ f ≤ 7 → K f g → K1 (d + 7) dd sh K f g := fun f hf h => ⟨⟨by omega, by omega⟩, fun e => by omega, fun _ => h⟩
  have kok : ∀ g', rI (d + 7) m_X12_summed 15 [some (vR 134), none] [] dd sh g' K → K1 (d + 7) dd sh K 0 g' := fun g' h => ⟨⟨by decide, by decide⟩, fun _ => h, fun e => absurd rfl e⟩
  refine mkI (ls := [some (vR 134), none]) rfl rfl rfl rfl rfl (r_X12_beginOne_0 ⟨⟨by omega, by omega⟩, fun n1 => ?_, fun e1 => ?_⟩)
  · have nk2 : kdF B k st ln t ≠ 2 := fun h => n1 (m1.mpr h)
    refine s_X12_nameOf (d := d) (B := B) (n := n) (k := k) (t := t) hL.2.2.1 hL.2.1 hL.2.2.2.2 hT (fun h1 h2 => ⟨⟨by omega, by omega⟩, fun h => absurd h (by omega), fun _ => ?_⟩) (fun hno => ⟨⟨by decide, by decide⟩, fun _ => ?_, fun h => absurd h (by decide)⟩)
    · obtain ⟨w, hw2⟩ := Int.eq_ofNat_of_zero_le (show 0 ≤ kdF B k st ln t - 20 by omega)
      rw [hw2]
      refine s_X12_isOf (d := d + 4) (it := it) hs hR (by omega) hit (by omega) (fun hn => ⟨⟨by decide, by decide⟩, fun _ => ?_, fun h => absurd h (by decide)⟩) (fun hn => ⟨⟨by decide, by decide⟩, fun h => absurd rfl h, fun _ => ?_⟩)
      · refine r_X12_beginOne_39 ⟨⟨by omega, by omega⟩, fun e => absurd e n1, fun _ => ⟨⟨by omega, by omega⟩, fun h => absurd h (by omega), fun _ => ⟨fun _ => ?_, fun e => absurd e n1⟩⟩⟩
        refine r_X12_beginOne_64 (r_X12_beginOne_65 ⟨⟨by omega, by omega⟩, fun _ => r_X12_beginOne_80 ?_, fun e => absurd e n1⟩)
        refine m_fin (d := d) hS (by omega) hb hP fun g' f' hS' => kok g' ?_
        exact hok [(1, (w : Int))] g' (Or.inr (Or.inr (Or.inr (Or.inl ⟨w, by omega, by omega, hn, rfl⟩)))) f' hS'
      · exact kbad 5 (by decide) (hbad 5 t (Or.inr (Or.inr (Or.inl ⟨w, by omega, by omega, hn, rfl⟩))))
    · refine r_X12_beginOne_39 ⟨⟨by omega, by omega⟩, fun e => absurd e n1, fun _ => ⟨⟨by decide, by decide⟩, fun _ => ⟨fun n40 => ⟨fun n45 => ?_, fun e45 => hopen 3 (Or.inr (Or.inl ⟨m4.mp e45, rfl⟩))⟩, fun e40 => hopen 40 (Or.inl ⟨m7.mp e40, rfl⟩)⟩, fun h => absurd h (by decide)⟩⟩
      refine s_X12_w5 (d := d + 2) (by decide) (by decide) (by decide) (by decide) (by decide) ?_
      refine s_X12_isWord (d := d + 5) (w := 19) hL.2.2.1 hL.2.1 hL.2.2.2.2 hT (by decide) (by decide) (by decide) (fun e29 => ⟨⟨by decide, by decide⟩, fun h => absurd h (by decide), fun _ => hopen 2 (Or.inr (Or.inr ⟨e29, rfl⟩))⟩) (fun n29 => ⟨⟨by decide, by decide⟩, fun _ => ?_, fun h => absurd rfl h⟩)
      exact kbad 1 (by decide) (hbad 1 t (Or.inr (Or.inr (Or.inr (Or.inr ⟨nk2, hno, fun e => n40 (m7.mpr e), fun e => n45 (m4.mpr e), fun e => n29 e, rfl⟩)))))
  · have ek2 := m1.mp e1
    obtain ⟨n1, n2⟩ := hT.num e1
    refine ⟨⟨by omega, by omega⟩, fun hle => ?_, fun hgt => kbad 2 (by decide) (hbad 2 t (Or.inr (Or.inl ⟨ek2, by omega, rfl⟩)))⟩
    refine s_X12_nameOf (d := d) (B := B) (n := n) (k := k) (t := t) hL.2.2.1 hL.2.1 hL.2.2.2.2 hT (fun h1 h2 => absurd h1 (by omega)) (fun hno => ⟨⟨by decide, by decide⟩, fun _ => ?_, fun h => absurd h (by decide)⟩)
    refine r_X12_beginOne_39 ⟨⟨by omega, by omega⟩, fun _ => ⟨fun e => absurd e1 e, fun _ => ?_⟩, fun e => absurd e1 e⟩
    refine r_X12_beginOne_65 ⟨⟨by omega, by omega⟩, fun e => absurd e1 e, fun _ => ?_⟩
    have ev : g 134 10 = vlF B k st ln t := by omega
    rw [ev]
    refine m_fin (d := d) hS (by omega) hb hP fun g' f' hS' => kok g' ?_
    exact hok [(0, vlF B k st ln t)] g' (Or.inl ⟨ek2, by omega, rfl⟩) f' hS'
/-- one more on the pile, the next token -/
theorem m_push {g g' : Nat → Nat → Int} {t : Nat} {P : List Int} {C : List (Int × Int)} {op op' x wh : Int} (hS : Sm B n k st ln pays x0 cs0 g t P C op wh) (hx : 2 ≤ x ∧ x ≤ 40) (o : ∀ q, q ≠ 134 → q ≠ 139 → g' q = g q) (o2 : ∀ i, i ≠ P.length → g' 139 i = g 139 i) (o3 : g' 139 P.length = x) (j : ∀ i, i ≠ 16 → i ≠ 17 → i ≠ 18 → g' 134 i = g 134 i) (e16 : g' 134 16 = (P.length : Int) + 1) (e17 : g' 134 17 = op') (e18 : g' 134 18 = 0) : SuF x0 cs0 g g' ∧ Sm B n k st ln pays x0 cs0 g' t (x :: P) C op' 0 := by
  obtain ⟨hL, hs, hT, hR, hw⟩ := hS
  have f : SuF x0 cs0 g g' := ⟨fun q q1 _ q3 => o q q1 q3, fun i _ _ a b c => j i a b c, fun i _ => by rw [o 137 (by decide) (by decide)]⟩
  obtain ⟨h1, h2, h3, h4, h5, h6⟩ := hR
  have l : (x :: P).length = P.length + 1 := rfl
  refine ⟨f, hL.fr f, hs.fr f, hT.fr fun i _ _ => j i (by omega) (by omega) (by omega), ⟨by rw [j 12 (by decide) (by decide) (by decide)]; exact h1, by rw [l]; omega, h3.push hx (fun i hi => o2 i (by omega)) o3, e17, by rw [j 13 (by decide) (by decide) (by decide)]; exact h5, fun i hi => by rw [o 137 (by decide) (by decide)]; exact h6 i hi⟩, e18⟩
theorem Sm.next {g g' : Nat → Nat → Int} {t : Nat} {P : List Int} {C : List (Int × Int)} {op wh : Int} (hS : Sm B n k st ln pays x0 cs0 g t P C op wh) (o : ∀ q, q ≠ 134 → g' q = g q) (j : ∀ i, i < 7 ∨ 11 < i → g' 134 i = g 134 i) (hT : TkR B n k st ln (g' 134) (t + 1)) : SuF x0 cs0 g g' ∧ Sm B n k st ln pays x0 cs0 g' (t + 1) P C op wh := by
  obtain ⟨hL, hs, _, hR, hw⟩ := hS
  have f : SuF x0 cs0 g g' := suf134 o fun i a _ _ _ _ => j i a
  exact ⟨f, hL.fr f, hs.fr f, hT, hR.fr o (fun i hi => j i (by omega)), by rw [j 18 (by decide)]; exact hw⟩
theorem m_opened {d : Nat} {dd : List (Nat × Nat)} {sh : Nat → Nat → Nat} {g : Nat → Nat → Int} {K : Int → (Nat → Nat → Int) → Prop} {t : Nat} {it : Bool} {P : List Int} {C : List (Int × Int)} {op x : Int} (hS : Sm B n k st ln pays x0 cs0 g t P C op 0) (hop : 0 ≤ op ∧ op < 8) (hit : it = true ↔ 2 ∈ P) (hb : cs0 + C.length + npc P ≤ t) (hP : P.length ≤ 140) (hk : 2 ≤ kdF B k st ln t) (hx : x = 40 ∨ x = 3 ∨ x = 2)
    (hK : x ≠ 2 → ∀ g', SuF x0 cs0 g g' → Sm B n k st ln pays x0 cs0 g' (t + 1) (x :: P) C (op + 1) 0 → K 0 g')
    (hK7 : x = 2 → it = true → K 7 g) (hK1 : x = 2 → it = false → kdF B k st ln (t + 1) ≠ 2 → ∀ g', SuF x0 cs0 g g' → g' 134 8 = ((stK n k st (t + 1) : Nat) : Int) → K 1 g')
    (hK2 : x = 2 → it = false → kdF B k st ln (t + 1) = 2 → (vlF B k st ln (t + 1) < 1 ∨ 9 < vlF B k st ln (t + 1)) → ∀ g', SuF x0 cs0 g g' → g' 134 8 = ((stK n k st (t + 1) : Nat) : Int) → K 2 g')
    (hK3 : x = 2 → it = false → kdF B k st ln (t + 1) = 2 → (1 ≤ vlF B k st ln (t + 1) ∧ vlF B k st ln (t + 1) ≤ 9) → kdF B k st ln (t + 2) ≠ 30 → ∀ g', SuF x0 cs0 g g' → g' 134 8 = ((stK n k st (t + 2) : Nat) : Int) → K 1 g')
    (hK4 : x = 2 → it = false → kdF B k st ln (t + 1) = 2 → (1 ≤ vlF B k st ln (t + 1) ∧ vlF B k st ln (t + 1) ≤ 9) → kdF B k st ln (t + 2) = 30 → ∀ g', SuF x0 cs0 g g' → Sm B n k st ln pays x0 cs0 g' (t + 3) (2 :: P) (C ++ [(2, vlF B k st ln (t + 1))]) (op + 1) 0 → K 0 g') : cI (d + 6) m_X12_opened [(vR 134), (vI x)] dd sh g K := by
  obtain ⟨hL, hs, hT, hR, hw⟩ := id hS
  have hk300 := hL.k3
  have htk := (hT.next hk).1
  have h16 := hR.2.1
  have h17 := hR.2.2.2.1
  have hl40 : 2 ≤ x ∧ x ≤ 40 := by omega
  obtain ⟨f1, hS1⟩ := m_push (g' := up (up (up g 134 17 ((g 134 17) + 1)) 139 ((g 134 16).toNat) x) 134 16 ((g 134 16) + 1)) (op' := op + 1) hS hl40 (fun q q1 q2 => by rw [up_off q1, up_off q2, up_off q1]) (fun i hi => by rw [up_off (by decide), up_at, if_neg (by omega), up_off (by decide)]) (by rw [up_off (by decide), up_at, if_pos (by omega)]) (fun i a b _ => by rw [up_at, if_neg a, up_off (by decide), up_at, if_neg b]) (by rw [up_at, if_pos rfl, h16]) (by rw [up_at, if_neg (by decide), up_off (by decide), up_at, if_pos rfl, h17]) (by rw [up_at, if_neg (by decide), up_off (by decide), up_at, if_neg (by decide)]; exact hw)
  refine mkI (ls := [some (vR 134), some (vI x)]) rfl rfl rfl rfl rfl (r_X12_opened_0 ?_)
  rw [h17]
  refine ⟨⟨by omega, by omega⟩, fun _ => ⟨⟨by omega, by omega⟩, fun n2 => ⟨by omega, by omega, ?_⟩, fun e2 => ?_⟩, fun h => absurd h (by omega)⟩
  · rw [h17] at f1 hS1
    refine c_nextT (d := d + 3) hS1.1 hS1.2.2.1 hk fun g2 o2 j2 hT2 => ⟨fun h => absurd h n2, fun _ => ?_⟩
    obtain ⟨f2, hS2⟩ := hS1.next o2 j2 hT2
    exact hK n2 g2 (f1.tr f2) hS2
  · refine s_X12_isTotalling (d := d + 4) hR (by omega) (fun h2 => ⟨⟨by decide, by decide⟩, fun h => absurd h (by decide), fun _ => hK7 e2 (hit.mpr h2)⟩) (fun h2 => ⟨⟨by decide, by decide⟩, fun _ => ⟨by omega, by omega, ?_⟩, fun h => absurd rfl h⟩)
    have eit : it = false := by
      cases it
      · rfl
      · exact absurd (hit.mp rfl) h2
    subst e2
    refine c_nextT (d := d + 3) hS1.1 hS1.2.2.1 hk fun g2 o2 j2 hT2 => ⟨fun _ => ?_, fun h => absurd rfl h⟩
    obtain ⟨f2, hS2⟩ := hS1.next o2 j2 hT2
    obtain ⟨_, _, _, _, _, _, _, m1, _⟩ := hT2.m9
    have i9 := hT2.i9 hL.2.2.1 hL.2.1 hL.2.2.2.2
    refine ⟨⟨by omega, by omega⟩, fun e1 => ?_, fun n1 => hK1 rfl eit (fun h => n1 (m1.mpr h)) g2 (f1.tr f2) hT2.place⟩
    have ek2 := m1.mp e1
    obtain ⟨q1, q2⟩ := hT2.num e1
    have ht1 := (hT2.next (by omega)).1
    refine s_X12_isIn ⟨by omega, by omega⟩ ⟨by decide, by decide⟩ ⟨by decide, by decide⟩ (fun c1 c2 => ⟨⟨by decide, by decide⟩, fun _ => ?_, fun h => absurd h (by decide)⟩) (fun c1 => ⟨⟨by decide, by decide⟩, fun h => absurd rfl h, fun _ => hK2 rfl eit ek2 (by omega) g2 (f1.tr f2) hT2.place⟩)
    have ev : g2 134 10 = vlF B k st ln (t + 1) := by omega
    rw [ev]
    refine s_X12_emit (d := d + 4) hS2.2.2.2.1 (by omega) fun g3 f3 o3 j3 hR3 => ?_
    have hT3 : TkR B n k st ln (g3 134) (t + 1) := hT2.fr fun j _ _ => j3 j (by omega)
    have hS3 : Sm B n k st ln pays x0 cs0 g3 (t + 1) (2 :: P) (C ++ [(2, vlF B k st ln (t + 1))]) (op + 1) 0 := ⟨hS2.1.fr f3, hS2.2.1.fr f3, hT3, hR3, by rw [j3 18 (by decide)]; exact hS2.2.2.2.2⟩
    refine c_nextT (d := d + 3) hS3.1 hT3 (by omega) fun g4 o4 j4 hT4 => ?_
    obtain ⟨f4, hS4⟩ := hS3.next o4 j4 hT4
    have f14 := f1.tr (f2.tr (f3.tr f4))
    refine s_X12_w2 (d := d + 4) (by decide) (by decide) ?_
    refine s_X12_isWord (d := d + 4) (w := 20) hL.2.2.1 hL.2.1 hL.2.2.2.2 hT4 (by decide) (by decide) (by decide) (fun e30 => ⟨⟨by decide, by decide⟩, fun _ => ?_, fun h => absurd h (by decide)⟩) (fun n30 => ⟨⟨by decide, by decide⟩, fun h => absurd rfl h, fun _ => hK3 rfl eit ek2 (by omega) n30 g4 f14 hT4.place⟩)
    refine c_nextT (d := d + 3) hS4.1 hT4 (by have e30' : kdF B k st ln (t + 1 + 1) = 10 + ((20 : Nat) : Int) := e30; omega) fun g5 o5 j5 hT5 => ?_
    obtain ⟨f5, hS5⟩ := hS4.next o5 j5 hT5
    exact hK4 rfl eit ek2 (by omega) e30 g5 (f14.tr f5) hS5
end MA
