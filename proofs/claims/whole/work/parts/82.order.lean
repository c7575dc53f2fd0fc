-- the order by which most shows
def shO (od he w : Nat → Int) (k : Nat) : Int := if 0 < k ∧ he (w k).toNat ≤ he (w (k - 1)).toNat ∧ 0 < od (w k).toNat then od (w k).toNat - 1 else od (w k).toNat
theorem shO_b {od he w : Nat → Int} {k : Nat} (h : 0 ≤ od (w k).toNat ∧ od (w k).toNat ≤ 10) : 0 ≤ shO od he w k ∧ shO od he w k ≤ 10 := by
  unfold shO
  split <;> omega
theorem s_X4_shownInOrder {d : Nat} {dd : List (Nat × Nat)} {sh : Nat → Nat → Nat} {g : Nat → Nat → Int} {K : Int → (Nat → Nat → Int) → Prop} {n : Nat} (hn : n ≤ 7) (hw : ∀ k, k < n → 0 ≤ g 124 k ∧ g 124 k < 7) (hod : ∀ k, k < n → i32 (g 123 (g 124 k).toNat)) (hhe : ∀ k, k < n → i32 (g 8 (g 124 k).toNat)) (hK : K (sm (shO (g 123) (g 8) (g 124)) n) g) : cI (d + 1) m_X4_shownInOrder [(vR 122), (vI ((n : Int)))] dd sh g K := by
  refine mkI (ls := [some (vR 122), some (vI ((n : Int))), none, none, none, none, none]) rfl rfl rfl rfl rfl (r_X4_shownInOrder_0 ?_)
  refine loop (P := fun k => rI d m_X4_shownInOrder 4 [some (vR 122), some (vI ((n : Int))), some (vI (sm (shO (g 123) (g 8) (g 124)) k)), some (vI ((k : Int))), none, none, none] [] dd sh g K) (n := n) ?_ ?_ 0 (by omega)
  · exact r_X4_shownInOrder_4 ⟨⟨by omega, by omega⟩, ⟨by omega, by omega⟩, fun _ => hK, fun h => absurd h (by omega)⟩
  · intro k hk ih
    have ihx : sm (shO (g 123) (g 8) (g 124)) (k + 1) = sm (shO (g 123) (g 8) (g 124)) k + shO (g 123) (g 8) (g 124) k := rfl
    rw [ihx] at ih
    have w1 := hw k hk
    refine r_X4_shownInOrder_4 ?_
    rw [show ((k : Int)).toNat = k from rfl]
    refine ⟨⟨by omega, by omega⟩, ⟨by omega, by omega⟩, fun h => absurd h (by omega), fun _ => ⟨fun h => absurd h (by omega), fun _ => ⟨by omega, by omega, w1.1, w1.2, fun h => ?_, fun h => ?_⟩⟩⟩
    · rw [show shO (g 123) (g 8) (g 124) k = g 123 (g 124 k).toNat from if_neg (fun x => by omega)] at ih
      exact ih
    · rw [show ((k : Int) - 1).toNat = k - 1 by omega]
      have w2 := hw (k - 1) (by omega)
      refine ⟨by omega, by omega, w2.1, w2.2, hhe k hk, hhe (k - 1) (by omega), fun h => ?_, fun h => ⟨hod k hk, fun h2 => ?_, fun h2 => ?_⟩⟩
      · rw [show shO (g 123) (g 8) (g 124) k = g 123 (g 124 k).toNat from if_neg (fun x => by omega)] at ih
        exact ih
      · rw [show shO (g 123) (g 8) (g 124) k = g 123 (g 124 k).toNat from if_neg (fun x => by omega)] at ih
        exact ih
      · rw [show shO (g 123) (g 8) (g 124) k = g 123 (g 124 k).toNat - 1 from if_pos ⟨by omega, h, h2⟩] at ih
        exact ih
/-- the odds of a scene, and its heat -/
noncomputable def odF (a T : Nat → Int) (p : Nat) (c : Nat) : Int := oddsA a T (a 3) p c 1
def heF (a : Nat → Int) (c : Nat) : Int := a (58 + 4 * c)
noncomputable def evO (a T : Nat → Int) (p : Nat) (s : Int) (n : Nat) (l : List Nat) : Int := sm (shO (odF a T p) (heF a) (fun c => mf s (l.getD c 0))) n
noncomputable def stO (a T : Nat → Int) (p : Nat) (s : Int) (n : Nat) (z : Int × List Nat) (l : List Nat) : Int × List Nat := if z.1 < evO a T p s n l then (evO a T p s n l, l) else z
noncomputable def orO (a T : Nat → Int) (p : Nat) (s : Int) (n : Nat) : Int × List Nat := rows (stO a T p s n) n 120 (List.range n) (-1, [])
theorem shO_congr {od od' he he' w w' : Nat → Int} {n : Nat} (h1 : ∀ k, k < n → w k = w' k) (h2 : ∀ k, k < n → od (w k).toNat = od' (w k).toNat) (h3 : ∀ k, k < n → he (w k).toNat = he' (w k).toNat) : sm (shO od he w) n = sm (shO od' he' w') n := by
  refine sm_congr fun k hk => ?_
  unfold shO
  rw [h2 k hk, h3 k hk, ← h1 k hk]
  by_cases h0 : 0 < k
  · rw [h3 (k - 1) (by omega), ← h1 (k - 1) (by omega)]
  · rw [if_neg (fun x => h0 x.1), if_neg (fun x => h0 x.1)]
theorem evO_b {a T : Nat → Int} {p : Nat} {s : Int} {n : Nat} {l : List Nat} (hn : n ≤ 5) : 0 ≤ evO a T p s n l ∧ evO a T p s n l ≤ 50 := by
  have := sm_bound (f := shO (odF a T p) (heF a) (fun c => mf s (l.getD c 0))) (n := n) (B := 10) fun k _ => shO_b (by have := oddsA_b a T (a 3) p (mf s (l.getD k 0)).toNat 1; exact ⟨this.1, this.2⟩)
  unfold evO
  omega
theorem stO_b {a T : Nat → Int} {p : Nat} {s : Int} {n : Nat} {l : List Nat} {z : Int × List Nat} (hn : n ≤ 5) (hz : z.1 ≤ 50) : 0 ≤ (stO a T p s n z l).1 ∧ (stO a T p s n z l).1 ≤ 50 := by
  have := evO_b (a := a) (T := T) (p := p) (s := s) (l := l) hn
  unfold stO
  split
  · exact this
  · exact ⟨by omega, hz⟩
theorem s_X4_bestOrder {d : Nat} {dd : List (Nat × Nat)} {sh : Nat → Nat → Nat} {g : Nat → Nat → Int} {K : Int → (Nat → Nat → Int) → Prop} {p n : Nat} {s i : Int} (hI : Inv dd sh g) (hp : p < 6) (hpa : (p : Int) < g 135 0) (hs : 0 ≤ s ∧ s ≤ 2147483647) (hn : sm (bt s) 7 = (n : Int)) (hn5 : n ≤ 5) (hm : ∀ j : Nat, j < 7 → bt s j = 1 → (j : Int) < g 135 1) (hi : -1 ≤ i ∧ i < n)
    (hK : ∀ g', ClScr g g' → K (if i = -1 then (orO (g 135) (g 137) p s n).1 else mf s ((orO (g 135) (g 137) p s n).2.getD i.toNat 0)) g') : cI (d + 5) m_X4_bestOrder [(vR 122), (vI (p : Int)), (vI s), (vI i)] dd sh g K := by
  have em := hI.s.m
  obtain ⟨m, hmm⟩ := Int.eq_ofNat_of_zero_le em.2.1
  refine mkI (ls := [some (vR 122), some (vI ((p : Int))), some (vI s), some (vI i), none, none, none, none, none]) rfl rfl rfl rfl rfl (r_X4_bestOrder_0 ?_)
  refine s_X11_membersOf (p := 124) (L := 7) (by decide) rfl ⟨by decide, by decide⟩ hs (by omega) fun g1 f1 f2 => ?_
  rw [hn] at f2 ⊢
  have hmf : ∀ c : Nat, c < n → 0 ≤ mf s c ∧ mf s c < 7 ∧ mf s c < g 135 1 := fun c hc => by
    obtain ⟨j, j1, j2, j3, j4⟩ := mf_ex (s := s) (c := c) (by omega)
    have := hm j j1 j2
    omega
  have hS : ∀ g', (∀ q, q ≠ 123 → q ≠ 124 → q ≠ 125 → q ≠ 116 → q ≠ 117 → g' q = g q) → ClScr g g' := fun g' h q hq => h q (by omega) (by omega) (by omega) (by omega) (by omega)
  refine loop (P := fun k => ∀ g', (∀ q, q ≠ 123 → q ≠ 124 → q ≠ 125 → q ≠ 116 → q ≠ 117 → g' q = g q) → (∀ c : Nat, c < n → g' 124 c = mf s c) → (∀ c, c < k → g' 123 c = odF (g 135) (g 137) p c) → rI (d + 4) m_X4_bestOrder 13 [some (vR 122), some (vI ((p : Int))), none, some (vI i), some (vI ((n : Int))), some (vI ((k : Int))), none, none, none] [] dd sh (g') K) (n := m) ?_ ?_ 0 (by omega) g1 (fun q _ q2 _ _ _ => f1 q q2) (fun c hc => f2 c (by omega)) (fun c hc => absurd hc (by omega))
  · intro g2 e1 e2 e3
    refine r_X4_bestOrder_13 ?_
    rw [e1 3 (by decide) (by decide) (by decide) (by decide) (by decide)]
    refine ⟨⟨by omega, by omega⟩, ⟨by omega, by omega⟩, fun _ => ?_, fun h => absurd h (by omega)⟩
    have main : ∀ (fu : Nat) (l : List Nat) (z : Int × List Nat) (g' : Nat → Nat → Int), chk n fu l = true → fu ≤ 120 → rows (stO (g 135) (g 137) p s n) n fu l z = orO (g 135) (g 137) p s n → (∀ q, q ≠ 124 → q ≠ 125 → g' q = g2 q) → (∀ c, c < n → g' 124 c = mf s (l.getD c 0)) → z.1 ≤ 50 → (0 ≤ z.1 → ∀ c, c < n → g' 125 c = mf s (z.2.getD c 0)) → -1 ≤ z.1 → rI (d + 4) m_X4_bestOrder 58 [some (vR 122), none, none, some (vI i), some (vI ((n : Int))), some (vI (z.1)), some (vI 1), some (vI (120 - (fu : Int))), none] [] dd sh (g') K := by
      intro fu
      induction fu with
      | zero => intro l z g' hc; exact absurd hc (by unfold chk; decide)
      | succ fu ih =>
        intro l z g' hc hfu hR w1 w2 w3 w4 w5
        obtain ⟨f', ef, hok, hor⟩ := chk_pos hc
        obtain rfl : f' = fu := by omega
        have hlt := okl_lt hok
        have eev : sm (shO (g' 123) (g' 8) (g' 124)) n = evO (g 135) (g 137) p s n l := by
          refine shO_congr w2 (fun k hk => ?_) (fun k hk => ?_)
          · have hb := hmf _ (hlt k hk)
            rw [w2 k hk, w1 123 (by decide) (by decide)]
            exact e3 _ (by omega)
          · have hb := hmf _ (hlt k hk)
            rw [w2 k hk, w1 8 (by decide) (by decide), e1 8 (by decide) (by decide) (by decide) (by decide) (by decide)]
            exact (hI.s.cc _ (by omega) (by omega)).1
        have hev := evO_b (a := g 135) (T := g 137) (p := p) (s := s) (l := l) hn5
        have hz := stO_b (a := g 135) (T := g 137) (p := p) (s := s) (l := l) (z := z) hn5 w3
        have hrel := nx_rel (f := mf s) (r := g' 124) (n := n) (l := l) (fun x y hxy hy => mf_lt hxy (by omega)) hok w2
        refine r_X4_bestOrder_58 ⟨⟨by omega, by omega⟩, fun h => absurd h (by omega), fun _ => ⟨⟨by decide, by decide⟩, fun h => absurd h (by decide), fun _ => ?_⟩⟩
        have hodi : ∀ k, k < n → i32 (g' 123 (g' 124 k).toNat) := fun k hk => by
          have hb := hmf _ (hlt k hk)
          have ho := oddsA_b (g 135) (g 137) (g 135 3) p (mf s (l.getD k 0)).toNat 1
          rw [w2 k hk, w1 123 (by decide) (by decide), e3 _ (by omega)]
          unfold odF
          omega
        have hhei : ∀ k, k < n → i32 (g' 8 (g' 124 k).toNat) := fun k hk => by
          have hb := hmf _ (hlt k hk)
          have hcb := hI.s.cb (mf s (l.getD k 0)).toNat (by omega)
          rw [w2 k hk, w1 8 (by decide) (by decide), e1 8 (by decide) (by decide) (by decide) (by decide) (by decide)]
          omega
        refine s_X4_shownInOrder (by omega) (fun k hk => by have hb := hmf _ (hlt k hk); rw [w2 k hk]; omega) hodi hhei ?_
        rw [eev]
        have after : ∀ g3 : Nat → Nat → Int, (∀ q, q ≠ 125 → g3 q = g' q) → (∀ c, c < n → g3 125 c = mf s ((stO (g 135) (g 137) p s n z l).2.getD c 0)) → cI (d + 4) m_X11_nextOrder [(vR 124), (vI (n : Int))] dd sh g3 (fun r4 g4 => rI (d + 4) m_X4_bestOrder 58 [some (vR 122), none, none, some (vI i), some (vI ((n : Int))), some (vI ((stO (g 135) (g 137) p s n z l).1)), some (vI r4), some (vI (120 - ((f' + 1 : Nat) : Int) + 1)), none] [] dd sh g4 K) := by
          intro g3 t1 t2
          generalize hzz : stO (g 135) (g 137) p s n z l = zz at hz t2 ⊢
          refine s_X11_nextOrder (p := 124) (L := 7) (by decide) rfl (by decide) (by omega) (by rw [t1 124 (by decide)]; exact hrel.1) (fun c hc => by have hb := hmf _ (hlt c hc); rw [t1 124 (by decide), w2 c hc]; omega) (fun hend => ?_) (fun j hj g4 u1 u2 => ?_)
          · rw [t1 124 (by decide), hrel.2.1] at hend
            rw [rows_end _ hend, hzz] at hR
            have hres : ∀ (A B C : Prop), (i = -1 → A) → (¬ i = -1 → B) → A → A := fun A B C h1 h2 h3 => h3
            have hk1 := hK g3 (hS g3 fun q q1 q2 q3 q4 q5 => by rw [t1 q q3, w1 q q2 q3]; exact e1 q q1 q2 q3 q4 q5)
            rw [← hR] at hk1
            have fin : ((¬ i = (-1) → ((i < 0 → K (-2) g3) ∧ (0 ≤ i → ((7 ≤ i → K (-2) g3) ∧ (i < 7 → (0 ≤ i) ∧ (i < 7) ∧ K (g3 125 i.toNat) g3))))) ∧ (i = (-1) → K zz.1 g3)) := by
              refine ⟨fun h => ⟨fun h2 => absurd h2 (by omega), fun h2 => ⟨fun h3 => absurd h3 (by omega), fun _ => ⟨by omega, by omega, ?_⟩⟩⟩, fun h => ?_⟩
              · rw [if_neg h] at hk1
                rw [t2 i.toNat (by omega)]
                exact hk1
              · rw [if_pos h] at hk1; exact hk1
            refine r_X4_bestOrder_58 ⟨⟨by omega, by omega⟩, fun _ => ⟨⟨by omega, by omega⟩, fin⟩, fun _ => ⟨⟨by decide, by decide⟩, fun _ => ⟨⟨by omega, by omega⟩, fin⟩, fun h => absurd rfl h⟩⟩
          · rw [t1 124 (by decide), hrel.2.1] at hj
            rw [rows_on _ hj, hzz] at hR
            have hc' : chk n f' (nxl n l) = true := hor.resolve_left (by omega)
            have := ih (nxl n l) zz g4 hc' (by omega) hR (fun q q1 q2 => by rw [u1 q q1, t1 q q2]; exact w1 q q1 q2) (fun c hc => by rw [u2 c, t1 124 (by decide)]; exact hrel.2.2 j hj c hc) hz.2 (fun _ c hc => by rw [u1 125 (by decide)]; exact t2 c hc) (by omega)
            rw [show (120 - ((f' + 1 : Nat) : Int) + 1) = 120 - (f' : Int) by omega]
            exact this
        refine ⟨⟨by omega, by omega⟩, ⟨by omega, by omega⟩, fun h => ?_, fun h => ?_⟩
        · have hst : stO (g 135) (g 137) p s n z l = z := if_neg (Int.not_lt.mpr h)
          rw [hst] at after
          exact after g' (fun _ _ => rfl) (w4 (by omega))
        · have hst : stO (g 135) (g 137) p s n z l = (evO (g 135) (g 137) p s n l, l) := if_pos h
          rw [hst] at after
          refine s_X11_copyRow (p0 := 124) (p1 := 125) (n := 7) (m := 7) (by decide) (by decide) (by decide) rfl rfl (by decide) (by decide) ?_
          refine after _ (fun q hq => ?_) (fun c hc => ?_)
          · funext j; unfold cpy; rw [if_neg (fun h => hq h.1)]
          · unfold cpy; rw [if_pos ⟨rfl, by omega⟩]; exact w2 c hc
    have := main 120 (List.range n) (-1, []) g2 (chk_all n (by omega)) (by decide) rfl (fun _ _ _ => rfl) (fun c hc => by rw [range_get hc]; exact e2 c hc) (by decide) (fun h => absurd h (by decide)) (by decide)
    exact this
  · intro c hc ih g2 e1 e2 e3
    refine r_X4_bestOrder_13 ?_
    rw [e1 3 (by decide) (by decide) (by decide) (by decide) (by decide)]
    refine ⟨⟨by omega, by omega⟩, ⟨by omega, by omega⟩, fun h => absurd h (by omega), fun _ => ?_⟩
    refine o_now hI (hS g2 e1) hp hpa (by omega) (by omega) ⟨by decide, by decide⟩ fun g3 l1 _ => ⟨by omega, by omega, ?_⟩
    refine ih _ (fun q q1 q2 q3 q4 q5 => by rw [up_off q1, l1 q q4 q5]; exact e1 q q1 q2 q3 q4 q5) (fun j hj => by rw [up_off (by decide), l1 124 (by decide) (by decide)]; exact e2 j hj) (fun j hj => ?_)
    rw [show ((c : Int)).toNat = c from rfl, up_at]
    by_cases hjc : j = c
    · subst hjc; rw [if_pos rfl]; rfl
    · rw [if_neg hjc, l1 123 (by decide) (by decide)]; exact e3 j (by omega)
theorem RF1.rf {g : Nat → Nat → Int} : RF1 g g := fun _ _ _ => rfl
theorem RF1.tr {g g' g'' : Nat → Nat → Int} (h : RF1 g g') (h' : RF1 g' g'') : RF1 g g'' := fun q a b => by rw [h' q a b, h q a b]
theorem RE.rf1 {g0 g g' : Nat → Nat → Int} (h : RE g0 g) (r : RF1 g g') : RE g0 g' := ⟨by rw [r 135 (by omega) (by omega)]; exact h.1, by rw [r 137 (by omega) (by omega)]; exact h.2.1, fun q hq => by rw [r q (by omega) (by omega)]; exact h.2.2 q hq⟩
theorem s_X12_shownBy {d : Nat} {dd : List (Nat × Nat)} {sh : Nat → Nat → Nat} {g : Nat → Nat → Int} {K : Int → (Nat → Nat → Int) → Prop} {g0 : Nat → Nat → Int} {p n : Nat} {s : Int} {l : List Nat} (hI : Inv dd sh g0) (hs : RE g0 g) (hp : p < 6) (hpa : (p : Int) < g0 135 0) (hn : n ≤ 5) (hl : ∀ c, c < n → l.getD c 0 < n) (h1 : ∀ c : Nat, c < n → g 144 c = lf l c) (h2 : ∀ c : Nat, c < n → g 143 c = mf s c) (hmf : ∀ c : Nat, c < n → 0 ≤ mf s c ∧ mf s c < 7 ∧ mf s c < g0 135 1)
    (hK : ∀ g', RF1 g g' → K (evO (g0 135) (g0 137) p s n l) g') : cI (d + 6) m_X12_shownBy [(vR 134), (vI (p : Int)), (vI (n : Int))] dd sh g K := by
  refine mkI (ls := [some (vR 134), some (vI ((p : Int))), some (vI ((n : Int))), none, none, none, none, none]) rfl rfl rfl rfl rfl (r_X12_shownBy_0 ?_)
  have hru := hI.h.ru
  have htx := hI.h.tx
  refine loop (P := fun k => ∀ g', RF1 g g' → rI (d + 5) m_X12_shownBy 5 [some (vR 134), some (vI ((p : Int))), some (vI ((n : Int))), some (vI (sm (shO (odF (g0 135) (g0 137) p) (heF (g0 135)) (fun c => mf s (l.getD c 0))) k)), some (vI ((k : Int))), none, none, none] [] dd sh (g') K) (n := n) ?_ ?_ 0 (by omega) g RF1.rf
  · intro g' hr
    exact r_X12_shownBy_5 ⟨⟨by omega, by omega⟩, ⟨by omega, by omega⟩, fun _ => hK g' hr, fun h => absurd h (by omega)⟩
  · intro k hk ih g' hr
    have eRE := hs.rf1 hr
    have hl1 := hl k hk
    have hb := hmf _ hl1
    obtain ⟨c, hc⟩ := Int.eq_ofNat_of_zero_le hb.1
    have e1 : g' 144 k = ((l.getD k 0 : Nat) : Int) := by rw [hr 144 (by decide) (by decide)]; exact h1 k hk
    have e2 : ∀ g'', RF1 g g'' → g'' 143 (l.getD k 0) = (c : Int) := fun g'' h => by rw [h 143 (by decide) (by decide), h2 _ hl1]; exact hc
    refine r_X12_shownBy_5 ?_
    rw [show ((k : Int)).toNat = k from rfl, e1, show (((l.getD k 0 : Nat) : Int)).toNat = l.getD k 0 from rfl, e2 g' hr, eRE.1]
    refine ⟨⟨by omega, by omega⟩, ⟨by omega, by omega⟩, fun h => absurd h (by omega), fun _ => ⟨by omega, by omega, by omega, by omega, ?_⟩⟩
    have hob := oddsA_b (g0 135) (g0 137) (g0 135 3) p c 1
    refine o_of hI eRE (by omega) ⟨by omega, by omega⟩ hp hpa (by omega) (by omega) ⟨by decide, by decide⟩ fun g3 r3 => ?_
    have hr3 := hr.tr r3
    have ihs : sm (shO (odF (g0 135) (g0 137) p) (heF (g0 135)) (fun c => mf s (l.getD c 0))) (k + 1) = sm (shO (odF (g0 135) (g0 137) p) (heF (g0 135)) (fun c => mf s (l.getD c 0))) k + shO (odF (g0 135) (g0 137) p) (heF (g0 135)) (fun c => mf s (l.getD c 0)) k := rfl
    have ihx := ih g3 hr3
    rw [ihs] at ihx
    have eod : odF (g0 135) (g0 137) p (mf s (l.getD k 0)).toNat = oddsA (g0 135) (g0 137) (g0 135 3) p c 1 := by rw [hc]; rfl
    have shn : ¬ (0 < k ∧ heF (g0 135) (mf s (l.getD k 0)).toNat ≤ heF (g0 135) (mf s (l.getD (k - 1) 0)).toNat ∧ 0 < odF (g0 135) (g0 137) p (mf s (l.getD k 0)).toNat) → shO (odF (g0 135) (g0 137) p) (heF (g0 135)) (fun c => mf s (l.getD c 0)) k = oddsA (g0 135) (g0 137) (g0 135 3) p c 1 := fun h => by
      have e9 : shO (odF (g0 135) (g0 137) p) (heF (g0 135)) (fun c => mf s (l.getD c 0)) k = odF (g0 135) (g0 137) p (mf s (l.getD k 0)).toNat := if_neg h
      rw [e9, eod]
    refine ⟨fun h => ?_, fun h => ?_⟩
    · rw [shn (fun x => by omega)] at ihx
      exact ihx
    · have hl2 := hl (k - 1) (by omega)
      have hb2 := hmf _ hl2
      obtain ⟨c2, hc2⟩ := Int.eq_ofNat_of_zero_le hb2.1
      have ae := hI.s.ab.cc c (by omega) (by omega)
      have ae2 := hI.s.ab.cc c2 (by omega) (by omega)
      have h135 := (hs.rf1 hr3).1
      refine s_of0 (by omega) ?_
      rw [show ((k : Int) - 1).toNat = k - 1 by omega, hr3 144 (by decide) (by decide), h1 (k - 1) (by omega)]
      unfold lf
      rw [show (((l.getD (k - 1) 0 : Nat) : Int)).toNat = l.getD (k - 1) 0 from rfl, hr3 143 (by decide) (by decide), h2 _ hl2, hc2]
      refine ⟨by omega, by omega, by omega, by omega, s_of0 (by omega) ?_⟩
      rw [h135]
      have ehe : heF (g0 135) (mf s (l.getD k 0)).toNat = g0 135 (58 + 4 * c) := by rw [hc]; rfl
      have ehe2 : heF (g0 135) (mf s (l.getD (k - 1) 0)).toNat = g0 135 (58 + 4 * c2) := by rw [hc2]; rfl
      rw [ehe, ehe2, eod] at shn
      refine ⟨⟨by omega, by omega⟩, ⟨by omega, by omega⟩, fun h9 => ?_, fun h9 => ⟨⟨by omega, by omega⟩, fun h8 => ?_, fun h8 => ?_⟩⟩
      · rw [shn (fun x => by omega)] at ihx
        exact ihx
      · rw [shn (fun x => by omega)] at ihx
        exact ihx
      · have e9 : shO (odF (g0 135) (g0 137) p) (heF (g0 135)) (fun c => mf s (l.getD c 0)) k = odF (g0 135) (g0 137) p (mf s (l.getD k 0)).toNat - 1 := if_pos ⟨by omega, by show heF (g0 135) (mf s (l.getD k 0)).toNat ≤ heF (g0 135) (mf s (l.getD (k - 1) 0)).toNat; rw [ehe, ehe2]; exact h9, by show 0 < odF (g0 135) (g0 137) p (mf s (l.getD k 0)).toNat; rw [eod]; exact h8⟩
        rw [e9, eod] at ihx
        exact ihx
theorem lf_mono {n : Nat} : ∀ i j : Nat, i < j → j < n → ((fun c : Nat => (c : Int)) i) < (fun c : Nat => (c : Int)) j := fun i j h _ => by show (i : Int) < (j : Int); omega
theorem orders_main {d : Nat} {dd : List (Nat × Nat)} {sh : Nat → Nat → Nat} {g : Nat → Nat → Int} {K : Int → (Nat → Nat → Int) → Prop} {g0 : Nat → Nat → Int} {p n : Nat} {s i : Int} (hI : Inv dd sh g0) (hs0 : RE g0 g) (hp : p < 6) (hpa : (p : Int) < g0 135 0) (hn5 : n ≤ 5) (hmf : ∀ c : Nat, c < n → 0 ≤ mf s c ∧ mf s c < 7 ∧ mf s c < g0 135 1) (hi : -1 ≤ i ∧ i < n) (k1 : ∀ c : Nat, c < n → g 144 c = (c : Int)) (k2 : ∀ c : Nat, c < n → g 143 c = mf s c)
    (hK : ∀ g', RefScr g g' → K (if i = -1 then (orO (g0 135) (g0 137) p s n).1 else mf s ((orO (g0 135) (g0 137) p s n).2.getD i.toNat 0)) g') : rI (d + 6) m_X12_order 64 [some (vR 134), some (vI ((p : Int))), none, some (vI i), some (vI ((n : Int))), some (vI (-1)), some (vI 1), none, none] [] dd sh g K := by
  have hS : ∀ g', (∀ q, q ≠ 140 → q ≠ 141 → q ≠ 144 → q ≠ 145 → g' q = g q) → RefScr g g' := fun g' h => ⟨fun q hq => h q (by omega) (by omega) (by omega) (by omega), fun k _ => by rw [h 134 (by omega) (by omega) (by omega) (by omega)]⟩
  have main : ∀ (fu : Nat) (l : List Nat) (z : Int × List Nat) (g' : Nat → Nat → Int), chk n fu l = true → rows (stO (g0 135) (g0 137) p s n) n fu l z = orO (g0 135) (g0 137) p s n → (∀ q, q ≠ 140 → q ≠ 141 → q ≠ 144 → q ≠ 145 → g' q = g q) → (∀ c : Nat, c < n → g' 144 c = lf l c) → z.1 ≤ 50 → (0 ≤ z.1 → ∀ c, c < n → g' 145 c = mf s (z.2.getD c 0)) → -1 ≤ z.1 → rI (d + 6) m_X12_order 64 [some (vR 134), some (vI ((p : Int))), none, some (vI i), some (vI ((n : Int))), some (vI (z.1)), some (vI 1), none, none] [] dd sh (g') K := by
    intro fu
    induction fu with
    | zero => intro l z g' hc; exact absurd hc (by unfold chk; decide)
    | succ fu ih =>
      intro l z g' hc hR w1 w2 w3 w4 w5
      obtain ⟨f', ef, hok, hor⟩ := chk_pos hc
      obtain rfl : f' = fu := by omega
      have hlt := okl_lt hok
      have hRE : RE g0 g' := ⟨by rw [w1 135 (by decide) (by decide) (by decide) (by decide)]; exact hs0.1, by rw [w1 137 (by decide) (by decide) (by decide) (by decide)]; exact hs0.2.1, fun q hq => by rw [w1 q (by omega) (by omega) (by omega) (by omega)]; exact hs0.2.2 q hq⟩
      have hev := evO_b (a := g0 135) (T := g0 137) (p := p) (s := s) (l := l) hn5
      have hz := stO_b (a := g0 135) (T := g0 137) (p := p) (s := s) (l := l) (z := z) hn5 w3
      have hrel := nx_rel (f := fun c => (c : Int)) (r := g' 144) (n := n) (l := l) lf_mono hok w2
      refine r_X12_order_64 ⟨⟨by decide, by decide⟩, fun h => absurd h (by decide), fun _ => ?_⟩
      refine s_X12_shownBy hI hRE hp hpa hn5 hlt w2 (fun c hc => by rw [w1 143 (by decide) (by decide) (by decide) (by decide)]; exact k2 c hc) hmf fun g2 r2 => ?_
      have after : ∀ g3 : Nat → Nat → Int, (∀ q, q ≠ 140 → q ≠ 141 → q ≠ 145 → g3 q = g' q) → (∀ c, c < n → g3 145 c = mf s ((stO (g0 135) (g0 137) p s n z l).2.getD c 0)) → cI (d + 6) m_X12_nextRow [(vR 134), (vI (n : Int))] dd sh g3 (fun r4 g4 => rI (d + 6) m_X12_order 64 [some (vR 134), some (vI ((p : Int))), none, some (vI i), some (vI ((n : Int))), some (vI ((stO (g0 135) (g0 137) p s n z l).1)), some (vI r4), none, none] [] dd sh g4 K) := by
        intro g3 t1 t2
        generalize hzz : stO (g0 135) (g0 137) p s n z l = zz at hz t2 ⊢
        have e144 := t1 144 (by decide) (by decide) (by decide)
        refine s_X12_nextRow (by omega) (by rw [e144]; exact hrel.1) (fun c hc => by have hb := hlt c hc; rw [e144, w2 c hc]; unfold lf; omega) (fun hend => ?_) (fun j hj g4 u1 u2 => ?_)
        · rw [e144, hrel.2.1] at hend
          rw [rows_end _ hend, hzz] at hR
          have hk1 := hK g3 (hS g3 fun q q1 q2 q3 q4 => by rw [t1 q q1 q2 q4]; exact w1 q q1 q2 q3 q4)
          rw [← hR] at hk1
          refine r_X12_order_64 ⟨⟨by decide, by decide⟩, fun _ => ⟨⟨by omega, by omega⟩, fun h => ⟨by omega, by omega, ?_⟩, fun h => ?_⟩, fun h => absurd rfl h⟩
          · rw [if_neg h] at hk1
            rw [t2 i.toNat (by omega)]
            exact hk1
          · rw [if_pos h] at hk1; exact hk1
        · rw [e144, hrel.2.1] at hj
          rw [rows_on _ hj, hzz] at hR
          have hc' : chk n f' (nxl n l) = true := hor.resolve_left (by omega)
          exact ih (nxl n l) zz g4 hc' hR (fun q q1 q2 q3 q4 => by rw [u1 q q3, t1 q q1 q2 q4]; exact w1 q q1 q2 q3 q4) (fun c hc => by rw [u2 c, e144]; exact hrel.2.2 j hj c hc) hz.2 (fun _ c hc => by rw [u1 145 (by decide)]; exact t2 c hc) (by omega)
      refine ⟨⟨by omega, by omega⟩, ⟨by omega, by omega⟩, fun h => ?_, fun h => ?_⟩
      · have hst : stO (g0 135) (g0 137) p s n z l = z := if_neg (Int.not_lt.mpr h)
        rw [hst] at after
        exact after g2 (fun q q1 q2 _ => r2 q q1 q2) (fun c hc => by rw [r2 145 (by decide) (by decide)]; exact w4 (by omega) c hc)
      · have hst : stO (g0 135) (g0 137) p s n z l = (evO (g0 135) (g0 137) p s n l, l) := if_pos h
        rw [hst] at after
        refine loop (P := fun k => ∀ g3, (∀ q, q ≠ 140 → q ≠ 141 → q ≠ 145 → g3 q = g' q) → (∀ c : Nat, c < k → g3 145 c = mf s (l.getD c 0)) → rI (d + 6) m_X12_order 92 [some (vR 134), some (vI ((p : Int))), none, some (vI i), some (vI ((n : Int))), some (vI (evO (g0 135) (g0 137) p s n l)), none, none, some (vI ((k : Int)))] [] dd sh g3 K) (n := n) ?_ ?_ 0 (by omega) g2 (fun q q1 q2 _ => r2 q q1 q2) (fun c hc => absurd hc (by omega))
        · intro g3 t1 t2
          exact r_X12_order_92 ⟨⟨by omega, by omega⟩, ⟨by omega, by omega⟩, fun _ => after g3 t1 t2, fun h => absurd h (by omega)⟩
        · intro k hk ihk g3 t1 t2
          have hl1 := hlt k hk
          refine r_X12_order_92 ?_
          rw [show ((k : Int)).toNat = k from rfl, t1 144 (by decide) (by decide) (by decide), w2 k hk]
          unfold lf
          refine ⟨⟨by omega, by omega⟩, ⟨by omega, by omega⟩, fun h => absurd h (by omega), fun _ => ⟨by omega, by omega, by omega, by omega, ?_⟩⟩
          refine ihk _ (fun q q1 q2 q3 => by rw [up_off q3]; exact t1 q q1 q2 q3) (fun c hc => ?_)
          rw [up_at]
          by_cases hck : c = k
          · subst hck
            rw [if_pos rfl, show (((l.getD c 0 : Nat) : Int)).toNat = l.getD c 0 from rfl, t1 143 (by decide) (by decide) (by decide), w1 143 (by decide) (by decide) (by decide) (by decide)]
            exact k2 _ hl1
          · rw [if_neg hck]; exact t2 c (by omega)
  exact main 120 (List.range n) (-1, []) g (chk_all n (by omega)) rfl (fun _ _ _ _ _ => rfl) (fun c hc => by unfold lf; rw [range_get hc]; exact k1 c hc) (by decide) (fun h => absurd h (by decide)) (by decide)
theorem mf_b (s : Int) (c : Nat) : 0 ≤ mf s c ∧ mf s c ≤ 6 := by
  have key : ∀ k, k ≤ 7 → 0 ≤ mq s c k ∧ mq s c k ≤ 6 := by
    intro k
    induction k with
    | zero => intro _; exact ⟨Int.le_refl _, by show (0 : Int) ≤ 6; decide⟩
    | succ k ih =>
      intro hk
      have := ih (by omega)
      unfold mq
      split
      · omega
      · exact this
  exact key 7 (by decide)
theorem orO_b {a T : Nat → Int} {p : Nat} {s : Int} {n : Nat} (hn : n ≤ 5) : -1 ≤ (orO a T p s n).1 ∧ (orO a T p s n).1 ≤ 50 := by
  have key : ∀ (f : Nat) (l : List Nat) (z : Int × List Nat), -1 ≤ z.1 → z.1 ≤ 50 → -1 ≤ (rows (stO a T p s n) n f l z).1 ∧ (rows (stO a T p s n) n f l z).1 ≤ 50 := by
    intro f
    induction f with
    | zero => intro l z h1 h2; exact ⟨h1, h2⟩
    | succ f ih =>
      intro l z h1 h2
      have := stO_b (a := a) (T := T) (p := p) (s := s) (l := l) (z := z) hn h2
      unfold rows
      split
      · omega
      · exact ih _ _ (by omega) this.2
  exact key 120 _ _ (by decide) (by decide)
theorem bt_in {s : Int} {m : Int} (h0 : 0 ≤ s) (h : s < 2 ^ m.toNat) (hm : 0 ≤ m) : ∀ j : Nat, bt s j = 1 → (j : Int) < m := by
  intro j hj
  by_cases e : m.toNat ≤ j
  · have := bt_zero h0 h e; omega
  · omega
theorem p2_le {m : Int} (h : 0 ≤ m) (h7 : m ≤ 7) : (0 : Int) < 2 ^ m.toNat ∧ (2 : Int) ^ m.toNat ≤ 128 := ⟨Int.pow_pos (by decide), pow2_le (q := m.toNat) (p := 7) (by omega)⟩
theorem sim_order : S_order := by
  intro dd sh g hI a1 a2 a3 h1 h2 h3
  have en := hI.s.n
  have em := hI.s.m
  have hp2 := p2_le em.2.1 em.2.2
  unfold SimI
  have no : ∀ g1, ClScr g g1 → (a1 < 0 ∨ g 135 0 ≤ a1 ∨ a2 ≤ 0 ∨ 2 ^ (g 135 1).toNat ≤ a2 ∨ 5 < sm (bt a2) 10 ∨ a3 < -1 ∨ sm (bt a2) 10 ≤ a3) → cI 200 m_X12_order [vR 134, vI a1, vI a2, vI a3] dd sh g1 (fun r' g3 => (-2 : Int) = r' ∧ i32 (-2) ∧ Inv dd sh g3) := by
    intro g1 hs hno
    have e5 : g1 135 = g 135 := hs 135 (by omega)
    have done : Inv dd sh g1 := hI.scr hs RefScr.rf
    refine mkI (ls := [some (vR 134), some (vI a1), some (vI a2), some (vI a3), none, none, none, none, none]) rfl rfl rfl rfl rfl (r_X12_order_0 ?_)
    refine s_X12_isSuspect (by rw [e5]; exact en.2) h1 (fun c1 c2 => ⟨⟨by decide, by decide⟩, fun h => absurd h (by decide), fun _ => ?_⟩) (fun _ => ⟨⟨by decide, by decide⟩, fun _ => ⟨rfl, ⟨by decide, by decide⟩, done⟩, fun h => absurd rfl h⟩)
    rw [e5] at c2 ⊢
    rw [Int.one_mul]
    refine ⟨by omega, by omega, s_X12_isIn h2 ⟨by decide, by decide⟩ ⟨by omega, by omega⟩ (fun c3 c4 => ⟨⟨by decide, by decide⟩, fun h => absurd h (by decide), fun _ => ?_⟩) (fun _ => ⟨⟨by decide, by decide⟩, fun _ => ⟨rfl, ⟨by decide, by decide⟩, done⟩, fun h => absurd rfl h⟩)⟩
    have hb := sm_bound (f := bt a2) (n := 10) (B := 1) fun j _ => bt01 _ j
    refine s_X12_bits (by omega) (by omega) ⟨⟨by omega, by omega⟩, fun _ => ⟨rfl, ⟨by decide, by decide⟩, done⟩, fun h5 => ?_⟩
    refine s_X12_bits (by omega) (by omega) ?_
    exact s_X12_isIn h3 ⟨by decide, by decide⟩ ⟨by omega, by omega⟩ (fun c5 c6 => by omega) (fun _ => ⟨⟨by decide, by decide⟩, fun h => absurd rfl h, fun _ => ⟨rfl, ⟨by decide, by decide⟩, done⟩⟩)
  refine mkI (ls := [some (vR 1), some (vI a1), some (vI a2), some (vI a3), none]) rfl rfl rfl rfl rfl (r_X11_order_0 ?_)
  refine s_X7_hasSuspect hI.s h1 (fun c1 c2 => ⟨⟨by decide, by decide⟩, fun h => absurd h (by decide), fun _ => ?_⟩) (fun h => ⟨⟨by decide, by decide⟩, fun _ => no g ClScr.rf (by omega), fun h => absurd rfl h⟩)
  rw [em.1]
  refine s_X11_isSet h2 em.2.1 (by omega) (fun c3 c4 => ⟨⟨by decide, by decide⟩, fun _ => ?_, fun h => absurd h (by decide)⟩) (fun h => ⟨⟨by decide, by decide⟩, fun h => absurd rfl h, fun _ => no g ClScr.rf (by omega)⟩)
  have lt7 : a2 < 2 ^ 7 := by omega
  have b10 := bits_eq (x := a2) (q := 7) (m := 10) (by omega) lt7 (by decide)
  have b32 := bits_eq (x := a2) (q := 7) (m := 32) (by omega) lt7 (by decide)
  have hb := sm_bound (f := bt a2) (n := 7) (B := 1) fun j _ => bt01 _ j
  refine s_X11_countBits (by omega) (by omega) ?_
  rw [b32]
  rw [b10] at no
  refine ⟨⟨by omega, by omega⟩, fun h => no g ClScr.rf (by omega), fun h5 => ⟨⟨by omega, by omega⟩, fun h => no g ClScr.rf (by omega), fun h6 => ⟨fun h7 => ?_, fun h => no g ClScr.rf (by omega)⟩⟩⟩
  obtain ⟨p, rfl⟩ := Int.eq_ofNat_of_zero_le c1
  obtain ⟨n, hn⟩ := Int.eq_ofNat_of_zero_le hb.1
  have hm : ∀ j : Nat, j < 7 → bt a2 j = 1 → (j : Int) < g 135 1 := fun j _ hj => bt_in (by omega) c4 em.2.1 j hj
  refine s_X4_bestOrder (i := a3) hI (by omega) (by omega) (by omega) hn (by omega) hm (by omega) fun g1 hs => ?_
  have hres : i32 (if a3 = -1 then (orO (g 135) (g 137) p a2 n).1 else mf a2 ((orO (g 135) (g 137) p a2 n).2.getD a3.toNat 0)) := by
    have o1 := orO_b (a := g 135) (T := g 137) (p := p) (s := a2) (n := n) (by omega)
    have o2 := mf_b a2 ((orO (g 135) (g 137) p a2 n).2.getD a3.toNat 0)
    split <;> omega
  have e5 : g1 135 = g 135 := hs 135 (by omega)
  refine mkI (ls := [some (vR 134), some (vI ((p : Int))), some (vI a2), some (vI a3), none, none, none, none, none]) rfl rfl rfl rfl rfl (r_X12_order_0 ?_)
  refine s_X12_isSuspect (by rw [e5]; exact en.2) h1 (fun _ _ => ⟨⟨by decide, by decide⟩, fun h => absurd h (by decide), fun _ => ?_⟩) (fun h => absurd h (by rw [e5]; omega))
  rw [e5, Int.one_mul]
  refine ⟨by omega, by omega, s_X12_isIn h2 ⟨by decide, by decide⟩ ⟨by omega, by omega⟩ (fun c5 c6 => ⟨⟨by decide, by decide⟩, fun h => absurd h (by decide), fun _ => ?_⟩) (fun h => absurd h (by omega))⟩
  refine s_X12_bits (by omega) (by omega) ?_
  rw [b10]
  refine ⟨⟨by omega, by omega⟩, fun h => absurd h (by omega), fun _ => ?_⟩
  refine s_X12_bits (by omega) (by omega) ?_
  rw [b10]
  refine s_X12_isIn h3 ⟨by decide, by decide⟩ ⟨by omega, by omega⟩ (fun _ _ => ⟨⟨by decide, by decide⟩, fun _ => ?_, fun h => absurd h (by decide)⟩) (fun h => absurd h (by omega))
  refine s_X12_layMembers (by omega) fun g2 f1 f2 f3 => ?_
  have hmf : ∀ c : Nat, c < n → 0 ≤ mf a2 c ∧ mf a2 c < 7 ∧ mf a2 c < g 135 1 := fun c hc => by
    obtain ⟨j, j1, j2, j3, j4⟩ := mf_ex (s := a2) (c := c) (by omega)
    have := hm j j1 j2
    omega
  have hr1 : RefScr g1 g2 := ⟨fun q hq => f1 q (by omega) (by omega), fun k _ => by rw [f1 134 (by omega) (by omega)]⟩
  rw [hn] at f3 ⊢
  exact orders_main hI (RE.of hs hr1) (by omega) (by omega) (by omega) hmf (by omega) (fun c hc => f3 c (by omega)) (fun c hc => mf_of f2 (by omega)) fun g3 hr => ⟨rfl, hres, hI.scr hs (hr1.tr hr)⟩
