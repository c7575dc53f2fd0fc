-- the reference reads what is said
theorem leaf_det {kd vl : Nat → Int} {pays it : Bool} {t : Nat} {r r' : LRes} (h : Leaf kd vl pays it t r) (h' : Leaf kd vl pays it t r') : r = r' := by
  rcases h with ⟨h1, h2, h⟩ | ⟨h1, h2, h⟩ | ⟨w, h1, h2, h3, h⟩ | ⟨w, h1, h2, h3, h⟩ | ⟨a1, a2, a3, a4, a5, h⟩ <;> rcases h' with ⟨g1, g2, g⟩ | ⟨g1, g2, g⟩ | ⟨v, g1, g2, g3, g⟩ | ⟨v, g1, g2, g3, g⟩ | ⟨b1, b2, b3, b4, b5, g⟩
  · rw [h, g]
  · omega
  · omega
  · omega
  · exact absurd h1 b1
  · omega
  · rw [h, g]
  · omega
  · omega
  · exact absurd h1 b1
  · omega
  · omega
  · rw [h, g]
  · have : w = v := by omega
    subst this; exact absurd h3 g3
  · omega
  · omega
  · omega
  · have : w = v := by omega
    subst this; exact absurd g3 h3
  · have : w = v := by omega
    subst this; rw [h, g]
  · omega
  · exact absurd g1 a1
  · exact absurd g1 a1
  · omega
  · omega
  · rw [h, g]
theorem leaf_kd {kd vl : Nat → Int} {pays it : Bool} {t : Nat} {r : LRes} (h : Leaf kd vl pays it t r) : kd t ≠ 7 ∧ kd t ≠ 4 ∧ kd t ≠ 29 := by
  rcases h with ⟨h1, h2, h⟩ | ⟨h1, h2, h⟩ | ⟨w, h1, h2, h3, h⟩ | ⟨w, h1, h2, h3, h⟩ | ⟨a1, a2, a3, a4, a5, h⟩ <;> omega
theorem one_leaf {kd vl : Nat → Int} {pays it : Bool} {m t : Nat} {r x : LRes} (h : OneR kd vl pays m it t r) (hx : Leaf kd vl pays it t x) : r = x := by
  have hk := leaf_kd hx
  cases m with
  | zero =>
    unfold OneR at h
    rcases h with h | ⟨h, _⟩
    · exact leaf_det h hx
    · omega
  | succ m =>
    unfold OneR at h
    rcases h with h | ⟨h1, _⟩ | ⟨h1, _⟩ | ⟨h1, _⟩ | ⟨h1, _⟩ | ⟨h1, _⟩ | ⟨h1, _⟩ | ⟨h1, _⟩
    · exact leaf_det h hx
    all_goals omega
def psl (x : Int) : List Int := if x = -1 then [] else [x]
def QOk (Q : List Int) : Prop := Q = [] ∨ ∃ P, Q = 40 :: P
theorem stl_Q {Q : List Int} (h : QOk Q) {least : Int} (hl : 1 ≤ least) (C : List (Int × Int)) (op : Int) : stl least Q C op = (Q, C, op) := by
  rcases h with rfl | ⟨P, rfl⟩
  · rfl
  · exact if_neg (by rw [show rkF 40 = 0 from rfl]; omega)
theorem stl_s {Q : List Int} (h : QOk Q) {s : Int} (hs : s = -1 ∨ s = 4 ∨ s = 5) (C : List (Int × Int)) (op : Int) : stl 1 (psl s ++ Q) C op = (Q, C ++ dd1 s, op) := by
  rcases hs with rfl | rfl | rfl
  · have : C ++ dd1 (-1) = C := List.append_nil C
    rw [this]; exact stl_Q h (by decide) C op
  · exact stl_Q h (by decide) (C ++ dd1 4) op
  · exact stl_Q h (by decide) (C ++ dd1 5) op
theorem stl_ps {Q : List Int} (h : QOk Q) {s p : Int} (hs : s = -1 ∨ s = 4 ∨ s = 5) (hp : p = -1 ∨ p = 6 ∨ p = 7) (C : List (Int × Int)) (op : Int) : stl 1 (psl p ++ (psl s ++ Q)) C op = (Q, C ++ dd1 p ++ dd1 s, op) := by
  rcases hp with rfl | rfl | rfl
  · have : C ++ dd1 (-1) = C := List.append_nil C
    rw [this]; exact stl_s h hs C op
  · exact stl_s h hs (C ++ dd1 6) op
  · exact stl_s h hs (C ++ dd1 7) op
theorem stl_s2 {Q : List Int} (h : QOk Q) {s : Int} (hs : s = -1 ∨ s = 4 ∨ s = 5) {least : Int} (hl : 2 ≤ least) (C : List (Int × Int)) (op : Int) : stl least (psl s ++ Q) C op = (psl s ++ Q, C, op) := by
  rcases hs with rfl | rfl | rfl
  · exact stl_Q h (by omega) C op
  · exact if_neg (by rw [show rkF 4 = 1 from rfl]; omega)
  · exact if_neg (by rw [show rkF 5 = 1 from rfl]; omega)
theorem stl_p2 {Q : List Int} (h : QOk Q) {s p : Int} (hs : s = -1 ∨ s = 4 ∨ s = 5) (hp : p = -1 ∨ p = 6 ∨ p = 7) (C : List (Int × Int)) (op : Int) : stl 2 (psl p ++ (psl s ++ Q)) C op = (psl s ++ Q, C ++ dd1 p, op) := by
  rcases hp with rfl | rfl | rfl
  · have : C ++ dd1 (-1) = C := List.append_nil C
    rw [this]; exact stl_s2 h hs (by decide) C op
  · exact stl_s2 h hs (by decide) (C ++ dd1 6) op
  · exact stl_s2 h hs (by decide) (C ++ dd1 7) op
theorem stl_p3 {Q : List Int} (h : QOk Q) {s p : Int} (hs : s = -1 ∨ s = 4 ∨ s = 5) (hp : p = -1 ∨ p = 6 ∨ p = 7) (C : List (Int × Int)) (op : Int) : stl 3 (psl p ++ (psl s ++ Q)) C op = (psl p ++ (psl s ++ Q), C, op) := by
  rcases hp with rfl | rfl | rfl
  · exact stl_s2 h hs (by decide) C op
  · exact if_neg (by decide)
  · exact if_neg (by decide)
theorem psl_len (x : Int) : (psl x).length = (dd1 x).length := by unfold psl dd1; split <;> rfl
theorem npc_app (P Q : List Int) : npc (P ++ Q) = npc P + npc Q := by
  induction P with
  | nil => show npc Q = 0 + npc Q; omega
  | cons x P ih => show npc (P ++ Q) + _ = npc P + _ + npc Q; omega
theorem npc_psl {x : Int} (h : x ≤ 7) : npc (psl x) = (psl x).length := by
  unfold psl
  split
  · rfl
  · show 0 + (if x < 40 then 1 else 0) = 1
    rw [if_pos (by omega)]
theorem mem_psl {x s p : Int} {Q : List Int} (hs : s = -1 ∨ s = 4 ∨ s = 5) (hp : p = -1 ∨ p = 6 ∨ p = 7) (hx : x = 2 ∨ x = 40) : x ∈ psl p ++ (psl s ++ Q) ↔ x ∈ Q := by
  have e1 : ∀ y, (y = -1 ∨ y = 4 ∨ y = 5 ∨ y = 6 ∨ y = 7) → ¬ x ∈ psl y := fun y hy hm => by
    unfold psl at hm
    split at hm
    · exact absurd hm (by simp)
    · rw [List.mem_singleton] at hm; omega
  rw [List.mem_append, List.mem_append]
  constructor
  · intro h
    rcases h with h | h | h
    · exact absurd h (e1 p (by omega))
    · exact absurd h (e1 s (by omega))
    · exact h
  · exact fun h => Or.inr (Or.inr h)
section MB
variable {B : Nat → Int} {n k : Nat} {st ln : Nat → Nat} {pays : Bool} {x0 cs0 : Nat}
/-- an operator behind one -/
theorem m_op {d : Nat} {dd : List (Nat × Nat)} {sh : Nat → Nat → Nat} {g : Nat → Nat → Int} {K : Int → (Nat → Nat → Int) → Prop} {t : Nat} {P P' : List Int} {C C' : List (Int × Int)} {op op' o : Int} (hS : Sm B n k st ln pays x0 cs0 g t P C op 1) (ho : (kdF B k st ln t = 3 ∧ o = 4) ∨ (kdF B k st ln t = 4 ∧ o = 5) ∨ (kdF B k st ln t = 5 ∧ o = 6) ∨ (kdF B k st ln t = 6 ∧ o = 7)) (hst : stl (rkF o) P C op = (P', C', op')) (hb : cs0 + C.length + npc P ≤ 303) (hP : P.length ≤ 140) (hP' : P'.length ≤ 140)
    (hK : ∀ g', SuF x0 cs0 g g' → Sm B n k st ln pays x0 cs0 g' (t + 1) (o :: P') C' op' 0 → rI (d + 7) m_X12_summed 15 [some (vR 134), none] [] dd sh g' K) : rI (d + 7) m_X12_summed 15 [some (vR 134), none] [] dd sh g K := by
  obtain ⟨hL, hs, hT, hR, hw⟩ := id hS
  have i9 := hT.i9 hL.2.2.1 hL.2.1 hL.2.2.2.2
  obtain ⟨m3, m4, m5, m6, m7, m8, m9, m1, m0⟩ := hT.m9
  have hro : 1 ≤ rkF o ∧ rkF o ≤ 3 := by
    rcases ho with ⟨_, rfl⟩ | ⟨_, rfl⟩ | ⟨_, rfl⟩ | ⟨_, rfl⟩ <;> decide
  have hk2 : 2 ≤ kdF B k st ln t := by omega
  refine r_X12_summed_15 ?_
  rw [hw]
  refine ⟨⟨by decide, by decide⟩, fun h => absurd h (by decide), fun _ => ?_⟩
  have go : cI (d + 6) m_X12_rank [(vI o)] dd sh g (fun r59 g60 => cV (d + 6) m_X12_settle [(vR 134), (vI r59)] dd sh g60 (fun g62 => (0 ≤ g62 134 16) ∧ (g62 134 16 < 160) ∧ cV (d + 6) m_X12_nextToken [(vR 134)] dd sh (up (up (up g62 139 ((g62 134 16).toNat) o) 134 16 ((g62 134 16) + 1)) 134 18 0) (fun g67 => (i32 (1 : Int)) ∧ (((1 : Int) = 0 → cI (d + 7) m_X12_isOpen [(vR 134)] dd sh g67 (fun r12 g13 => (i32 r12) ∧ ((r12 = 0 → cV (d + 7) m_X12_settle [(vR 134), (vI 1)] dd sh g13 (fun g17 => K 0 g17)) ∧ (¬ r12 = 0 → K 1 g13)))) ∧ (¬ (1 : Int) = 0 → rI (d + 7) m_X12_summed 15 [some (vR 134), none] [] dd sh g67 K))))) := by
    refine s_X12_rank (d := d + 5) ⟨by omega, by omega⟩ ?_
    refine c_settle (d := d + 4) hro hR hb (by omega) fun g1 f1 j1 hR1 => ?_
    rw [hst] at hR1
    have hR1 : Rf x0 cs0 g1 P' C' op' := hR1
    have h16 := hR1.2.1
    have hS1 : Sm B n k st ln pays x0 cs0 g1 t P' C' op' 1 := ⟨hL.fr f1, hs.fr f1, hT.fr fun j _ _ => j1 j (by omega) (by omega) (by omega), hR1, by rw [j1 18 (by decide) (by decide) (by decide)]; exact hw⟩
    obtain ⟨f2, hS2⟩ := m_push (x := o) (g' := up (up (up g1 139 ((g1 134 16).toNat) o) 134 16 ((g1 134 16) + 1)) 134 18 0) (op' := op') hS1 (by omega) (fun q q1 q2 => by rw [up_off q1, up_off q1, up_off q2]) (fun i hi => by rw [up_off (by decide), up_off (by decide), up_at, if_neg (by omega)]) (by rw [up_off (by decide), up_off (by decide), up_at, if_pos (by omega)]) (fun i a _ c => by rw [up_at, if_neg c, up_at, if_neg a, up_off (by decide)]) (by rw [up_at, if_neg (by decide), up_at, if_pos rfl, h16]) (by rw [up_at, if_neg (by decide), up_at, if_neg (by decide), up_off (by decide)]; exact hR1.2.2.2.1) (by rw [up_at, if_pos rfl])
    refine ⟨by omega, by omega, ?_⟩
    refine c_nextT (d := d + 4) hS2.1 hS2.2.2.1 hk2 fun g3 o3 j3 hT3 => ⟨⟨by decide, by decide⟩, fun h => absurd h (by decide), fun _ => ?_⟩
    obtain ⟨f3, hS3⟩ := hS2.next o3 j3 hT3
    exact hK g3 (f1.tr (f2.tr f3)) hS3
  refine mkI (ls := [some (vR 134), none]) rfl rfl rfl rfl rfl (r_X12_behindOne_0 ⟨⟨by omega, by omega⟩, fun n43 => ⟨fun n45 => ⟨fun n42 => ⟨fun n47 => ?_, fun e => ?_⟩, fun e => ?_⟩, fun e => ?_⟩, fun e => ?_⟩)
  · exfalso
    rcases ho with ⟨h, _⟩ | ⟨h, _⟩ | ⟨h, _⟩ | ⟨h, _⟩
    · exact n43 (m3.mpr h)
    · exact n45 (m4.mpr h)
    · exact n42 (m5.mpr h)
    · exact n47 (m6.mpr h)
  · have := m6.mp e
    have eo : o = 7 := by omega
    rw [← eo]; exact go
  · have := m5.mp e
    have eo : o = 6 := by omega
    rw [← eo]; exact go
  · have := m4.mp e
    have eo : o = 5 := by omega
    rw [← eo]; exact go
  · have := m3.mp e
    have eo : o = 4 := by omega
    rw [← eo]; exact go
def POne (B : Nat → Int) (n k : Nat) (st ln : Nat → Nat) (pays : Bool) (x0 cs0 d : Nat) (dd : List (Nat × Nat)) (sh : Nat → Nat → Nat) (m : Nat) : Prop := ∀ {it : Bool} {t : Nat} {P : List Int} {C : List (Int × Int)} {r : LRes} {g : Nat → Nat → Int} {K : Int → (Nat → Nat → Int) → Prop}, t ≤ k → OneR (kdF B k st ln) (vlF B k st ln) pays m it t r → Sm B n k st ln pays x0 cs0 g t P C (8 - (m : Int)) 0 → (it = true ↔ 2 ∈ P) → cs0 + C.length + npc P ≤ t → P.length + 3 * m ≤ 26 →
  (∀ f p, r = .inl (f, p) → ∀ g', SuF x0 cs0 g g' → g' 134 8 = ((stK n k st p : Nat) : Int) → K f g') →
  (∀ t' c, r = .inr (t', c) → ∀ g', SuF x0 cs0 g g' → Sm B n k st ln pays x0 cs0 g' t' (stl 3 P (C ++ c) (8 - (m : Int))).1 (stl 3 P (C ++ c) (8 - (m : Int))).2.1 (stl 3 P (C ++ c) (8 - (m : Int))).2.2 1 → rI (d + 7) m_X12_summed 15 [some (vR 134), none] [] dd sh g' K) → rI (d + 7) m_X12_summed 15 [some (vR 134), none] [] dd sh g K
theorem kdF_lt {t : Nat} (h : kdF B k st ln t ≠ 0) : t < k := by
  by_cases e : t < k
  · exact e
  · exact absurd (if_neg e) h
theorem m_sum {d m : Nat} {dd : List (Nat × Nat)} {sh : Nat → Nat → Nat} (hm : m ≤ 8) (hOne : POne B n k st ln pays x0 cs0 d dd sh m) (hk3 : k ≤ 300) : ∀ (f : Nat) {it : Bool} {t : Nat} {c : List (Int × Int)} {s p : Int} {r : LRes} {Q : List Int} {C0 : List (Int × Int)} {g : Nat → Nat → Int} {K : Int → (Nat → Nat → Int) → Prop}, t ≤ k → SumR (OneR (kdF B k st ln) (vlF B k st ln) pays m it) (kdF B k st ln) f t c s p r → (s = -1 ∨ s = 4 ∨ s = 5) → (p = -1 ∨ p = 6 ∨ p = 7) → Sm B n k st ln pays x0 cs0 g t (psl p ++ (psl s ++ Q)) (C0 ++ c) (8 - (m : Int)) 0 → (it = true ↔ 2 ∈ Q) → QOk Q → cs0 + C0.length + c.length + (psl p).length + (psl s).length + npc Q ≤ t → Q.length + 2 + 3 * m ≤ 26 →
    (∀ f p, r = .inl (f, p) → ∀ g', SuF x0 cs0 g g' → g' 134 8 = ((stK n k st p : Nat) : Int) → K f g') →
    (∀ t' c', r = .inr (t', c') → ∀ g' p2 s2 c2, (s2 = -1 ∨ s2 = 4 ∨ s2 = 5) → (p2 = -1 ∨ p2 = 6 ∨ p2 = 7) → SuF x0 cs0 g g' → Sm B n k st ln pays x0 cs0 g' t' (psl p2 ++ (psl s2 ++ Q)) (C0 ++ c2) (8 - (m : Int)) 1 → C0 ++ c2 ++ dd1 p2 ++ dd1 s2 = C0 ++ c' → cs0 + C0.length + c2.length + (psl p2).length + (psl s2).length + npc Q ≤ t' → (kdF B k st ln t' ≠ 5 ∧ kdF B k st ln t' ≠ 6 ∧ kdF B k st ln t' ≠ 3 ∧ kdF B k st ln t' ≠ 4) → t' ≤ k → rI (d + 7) m_X12_summed 15 [some (vR 134), none] [] dd sh g' K) → rI (d + 7) m_X12_summed 15 [some (vR 134), none] [] dd sh g K := by
  intro f
  induction f with
  | zero => intro it t c s p r Q C0 g K _ h; exact absurd h (by unfold SumR; exact id)
  | succ f ih =>
    intro it t c s p r Q C0 g K htk h hs hp hS hit hQ hb hQl hbad hok
    have hk : ∀ t, kdF B k st ln t ≠ 0 → t < k := fun t => kdF_lt
    have lps := dd1_len s
    have lpp := dd1_len p
    rw [← psl_len] at lps lpp
    have hnp : npc (psl p ++ (psl s ++ Q)) = (psl p).length + ((psl s).length + npc Q) := by rw [npc_app, npc_app, npc_psl (by omega), npc_psl (by omega)]
    have hlen : (psl p ++ (psl s ++ Q)).length = (psl p).length + ((psl s).length + Q.length) := by rw [List.length_append, List.length_append]
    have hCl : (C0 ++ c).length = C0.length + c.length := List.length_append
    unfold SumR at h
    rcases h with ⟨e, h1, hr⟩ | ⟨t1, c1, h1, h⟩
    · refine hOne htk h1 hS (by rw [mem_psl hs hp (Or.inl rfl)]; exact hit) (by rw [hnp, hCl]; omega) (by rw [hlen]; omega) (fun f p e1 g' f' hp' => ?_) (fun t' c' e1 => by cases e1)
      exact hbad f p (by rw [hr, e1]) g' f' hp'
    · obtain ⟨o1, o2, o3, o4, o5⟩ := one_ok hk m it t t1 c1 htk h1
      refine hOne htk h1 hS (by rw [mem_psl hs hp (Or.inl rfl)]; exact hit) (by rw [hnp, hCl]; omega) (by rw [hlen]; omega) (fun f p e1 => by cases e1) (fun t' c' e1 g1 f1 hS1 => ?_)
      cases e1
      rw [stl_p3 hQ hs hp] at hS1
      have hS1 : Sm B n k st ln pays x0 cs0 g1 t1 (psl p ++ (psl s ++ Q)) (C0 ++ c ++ c1) (8 - (m : Int)) 1 := hS1
      have hCl1 : (C0 ++ c ++ c1).length = C0.length + c.length + c1.length := by rw [List.length_append, List.length_append]
      have lc1 : (c ++ c1).length = c.length + c1.length := List.length_append
      have goS : ∀ s', (s' = 4 ∨ s' = 5) → ((kdF B k st ln t1 = 3 ∧ s' = 4) ∨ (kdF B k st ln t1 = 4 ∧ s' = 5)) → SumR (OneR (kdF B k st ln) (vlF B k st ln) pays m it) (kdF B k st ln) f (t1 + 1) (c ++ c1 ++ dd1 p ++ dd1 s) s' (-1) r → rI (d + 7) m_X12_summed 15 [some (vR 134), none] [] dd sh g1 K := fun s' hs' hko hrel => by
        have hr1 : rkF s' = 1 := by rcases hs' with rfl | rfl <;> rfl
        refine m_op (o := s') (P' := Q) (C' := C0 ++ c ++ c1 ++ dd1 p ++ dd1 s) (op' := 8 - (m : Int)) hS1 (by omega) (by rw [hr1]; exact stl_ps hQ hs hp _ _) (by rw [hnp, hCl1]; omega) (by rw [hlen]; omega) (by omega) fun g2 f2 hS2 => ?_
        have es : psl s' = [s'] := if_neg (by omega)
        have hb' : (c ++ c1 ++ dd1 p ++ dd1 s).length = c.length + c1.length + (dd1 p).length + (dd1 s).length := by simp only [List.length_append]
        rw [psl_len, psl_len] at hb
        refine ih (Q := Q) (C0 := C0) (s := s') (p := -1) (by have := hk t1 (by omega); omega) hrel (by omega) (Or.inl rfl) ?_ hit hQ ?_ hQl (fun f p e1 g' f' hp' => hbad f p e1 g' (f1.tr (f2.tr f')) hp') (fun t' c' e1 g' p2 s2 c2 a1 a2 f' => hok t' c' e1 g' p2 s2 c2 a1 a2 (f1.tr (f2.tr f')))
        · have e9 : psl (-1) ++ (psl s' ++ Q) = s' :: Q := by rw [es]; rfl
          have e8 : C0 ++ (c ++ c1 ++ dd1 p ++ dd1 s) = C0 ++ c ++ c1 ++ dd1 p ++ dd1 s := by simp only [List.append_assoc]
          rw [e9, e8]; exact hS2
        · rw [hb', es]
          show cs0 + C0.length + _ + 0 + 1 + npc Q ≤ t1 + 1
          omega
      have goP : ∀ p', (p' = 6 ∨ p' = 7) → ((kdF B k st ln t1 = 5 ∧ p' = 6) ∨ (kdF B k st ln t1 = 6 ∧ p' = 7)) → SumR (OneR (kdF B k st ln) (vlF B k st ln) pays m it) (kdF B k st ln) f (t1 + 1) (c ++ c1 ++ dd1 p) s p' r → rI (d + 7) m_X12_summed 15 [some (vR 134), none] [] dd sh g1 K := fun p' hp' hko hrel => by
        have hr1 : rkF p' = 2 := by rcases hp' with rfl | rfl <;> rfl
        have hlen2 : (psl s ++ Q).length = (psl s).length + Q.length := List.length_append
        refine m_op (o := p') (P' := psl s ++ Q) (C' := C0 ++ c ++ c1 ++ dd1 p) (op' := 8 - (m : Int)) hS1 (by omega) (by rw [hr1]; exact stl_p2 hQ hs hp _ _) (by rw [hnp, hCl1]; omega) (by rw [hlen]; omega) (by omega) fun g2 f2 hS2 => ?_
        have ep : psl p' = [p'] := if_neg (by omega)
        have hb' : (c ++ c1 ++ dd1 p).length = c.length + c1.length + (dd1 p).length := by simp only [List.length_append]
        rw [psl_len p] at hb
        refine ih (Q := Q) (C0 := C0) (s := s) (p := p') (by have := hk t1 (by omega); omega) hrel hs (by omega) ?_ hit hQ ?_ hQl (fun f p e1 g' f' hp' => hbad f p e1 g' (f1.tr (f2.tr f')) hp') (fun t' c' e1 g' p2 s2 c2 a1 a2 f' => hok t' c' e1 g' p2 s2 c2 a1 a2 (f1.tr (f2.tr f')))
        · have e9 : psl p' ++ (psl s ++ Q) = p' :: (psl s ++ Q) := by rw [ep]; rfl
          have e8 : C0 ++ (c ++ c1 ++ dd1 p) = C0 ++ c ++ c1 ++ dd1 p := by simp only [List.append_assoc]
          rw [e9, e8]; exact hS2
        · rw [hb', ep]
          show cs0 + C0.length + _ + 1 + (psl s).length + npc Q ≤ t1 + 1
          omega
      rcases h with ⟨hk1, h⟩ | ⟨hk1, h⟩ | ⟨hk1, h⟩ | ⟨hk1, h⟩ | ⟨n5, n6, n3, n4, h⟩
      · exact goP 6 (Or.inl rfl) (Or.inl ⟨hk1, rfl⟩) h
      · exact goP 7 (Or.inr rfl) (Or.inr ⟨hk1, rfl⟩) h
      · exact goS 4 (Or.inl rfl) (Or.inl ⟨hk1, rfl⟩) h
      · exact goS 5 (Or.inr rfl) (Or.inr ⟨hk1, rfl⟩) h
      · have e8 : C0 ++ (c ++ c1) = C0 ++ c ++ c1 := by simp only [List.append_assoc]
        refine hok t1 _ h g1 p s (c ++ c1) hs hp f1 (by rw [e8]; exact hS1) (by simp only [List.append_assoc]) (by rw [lc1]; omega) ⟨n5, n6, n3, n4⟩ o2
theorem m_one {d : Nat} {dd : List (Nat × Nat)} {sh : Nat → Nat → Nat} (hk3 : k ≤ 300) : ∀ m, m ≤ 8 → POne B n k st ln pays x0 cs0 d dd sh m := by
  intro m
  induction m with
  | zero =>
    intro _ it t P C r g K htk hr hS hit hb hP hbad hok
    refine m_begin (it := it) hS hit hb (by omega) (fun f p hl => ?_) (fun c g' hl f' hS' => hok _ c (one_leaf hr hl) g' f' hS') fun x hx => ?_
    · have := (leaf_bad hl).2
      have ep : p = t := this
      subst ep
      exact hbad f p (one_leaf hr hl) g SuF.rf hS.2.2.1.place
    · unfold OneR at hr
      have er : r = .inl (3, t) := by
        rcases hr with h | ⟨_, h⟩
        · have := leaf_kd h; omega
        · exact h
      refine mkI (ls := [some (vR 134), some (vI x)]) rfl rfl rfl rfl rfl (r_X12_opened_0 ?_)
      rw [hS.2.2.2.1.2.2.2.1]
      refine ⟨⟨by decide, by decide⟩, fun h => absurd rfl h, fun _ => ⟨⟨by decide, by decide⟩, fun h => absurd h (by decide), fun _ => ?_⟩⟩
      exact hbad 3 t er g SuF.rf hS.2.2.1.place
  | succ m ih =>
    intro hm it t P C r g K htk hr hS hit hb hP hbad hok
    have ihm : POne B n k st ln pays x0 cs0 d dd sh m := ih (by omega)
    have hk : ∀ t, kdF B k st ln t ≠ 0 → t < k := fun t => kdF_lt
    have eop : (8 - ((m + 1 : Nat) : Int)) + 1 = 8 - (m : Int) := by omega
    refine m_begin (it := it) hS hit hb (by omega) (fun f p hl => ?_) (fun c g' hl f' hS' => hok _ c (one_leaf hr hl) g' f' hS') fun x hx => ?_
    · have := (leaf_bad hl).2
      have ep : p = t := this
      subst ep
      exact hbad f p (one_leaf hr hl) g SuF.rf hS.2.2.1.place
    · have kbad : ∀ f g', 1 ≤ f ∧ f ≤ 7 → K f g' → K1 (d + 7) dd sh K f g' := fun f g' hf h => ⟨⟨by omega, by omega⟩, fun e => by omega, fun _ => h⟩
      have kok : ∀ g', rI (d + 7) m_X12_summed 15 [some (vR 134), none] [] dd sh g' K → K1 (d + 7) dd sh K 0 g' := fun g' h => ⟨⟨by decide, by decide⟩, fun _ => h, fun e => absurd rfl e⟩
      have hnx : ∀ y : Int, npc (y :: P) ≤ npc P + 1 := fun y => by
        show npc P + (if y < 40 then 1 else 0) ≤ npc P + 1
        split <;> omega
      have hlx : ∀ y : Int, (y :: P).length = P.length + 1 := fun _ => rfl
      unfold OneR at hr
      refine m_opened (it := it) hS (by omega) hit hb (by omega) (by omega) (by omega) (fun n2 g1 f1 hS1 => kok g1 ?_) (fun e2 eit => ?_) (fun e2 eit k1 g1 f1 hp => ?_) (fun e2 eit k1 hv g1 f1 hp => ?_) (fun e2 eit k1 hv k2 g1 f1 hp => ?_) (fun e2 eit k1 hv k2 g1 f1 hS1 => kok g1 ?_)
      · rw [eop] at hS1
        rcases hx with ⟨hk7, rfl⟩ | ⟨hk4, rfl⟩ | ⟨hk29, rfl⟩
        · -- a bracket
          have hr' : ∃ r', SumR (OneR (kdF B k st ln) (vlF B k st ln) pays m it) (kdF B k st ln) 300 (t + 1) [] (-1) (-1) r' ∧ r = clo (kdF B k st ln) r' := by
            rcases hr with h | ⟨h1, _⟩ | ⟨h1, _⟩ | ⟨h1, _⟩ | ⟨h1, _⟩ | ⟨h1, _⟩ | ⟨h1, _⟩ | ⟨_, h⟩
            · have := leaf_kd h; omega
            · omega
            · omega
            · omega
            · omega
            · omega
            · omega
            · exact h
          obtain ⟨r', hsum, er⟩ := hr'
          have htk1 := hk t (by omega)
          have hQ : QOk (40 :: P) := Or.inr ⟨P, rfl⟩
          have m2 : (2 : Int) ∈ (40 :: P) ↔ 2 ∈ P := by
            rw [List.mem_cons]
            exact ⟨fun h => h.resolve_left (by decide), Or.inr⟩
          have n40 : npc (40 :: P) = npc P := rfl
          have l40 := hlx 40
          refine m_sum (by omega) ihm hk3 300 (Q := 40 :: P) (C0 := C) (c := []) (s := -1) (p := -1) (by omega) hsum (Or.inl rfl) (Or.inl rfl) (by rw [List.append_nil]; exact hS1) (by rw [m2]; exact hit) hQ (by rw [n40]; show cs0 + C.length + 0 + 0 + 0 + npc P ≤ t + 1; omega) (by rw [l40]; omega) (fun f p e1 g' f' hp' => ?_) (fun t' c' e1 g2 p2 s2 c2 hs2 hp2 f2 hS2 hCe hb2 hkk htk2 => ?_)
          · refine hbad f p ?_ g' (f1.tr f') hp'
            rw [er, e1]; rfl
          · -- behind the bracket's sum
            obtain ⟨hL2, hss2, hT2, hR2, hw2⟩ := id hS2
            have i9 := hT2.i9 hL2.2.2.1 hL2.2.1 hL2.2.2.2.2
            obtain ⟨m3, m4, m5, m6, m7, m8, m9, m1, m0⟩ := hT2.m9
            have hlen2 : (psl p2 ++ (psl s2 ++ (40 :: P))).length ≤ P.length + 3 := by
              have a := (dd1_len p2).1
              have b := (dd1_len s2).1
              rw [List.length_append, List.length_append, l40, psl_len, psl_len]; omega
            have hop2 : ∃ y, y ∈ psl p2 ++ (psl s2 ++ (40 :: P)) ∧ (40 : Int) ≤ y := ⟨40, (mem_psl hs2 hp2 (Or.inr rfl)).mpr (List.mem_cons_self ..), by decide⟩
            have hnp2 : npc (psl p2 ++ (psl s2 ++ (40 :: P))) = (psl p2).length + ((psl s2).length + npc P) := by rw [npc_app, npc_app, npc_psl (by omega), npc_psl (by omega)]; rfl
            have hCl2 : (C ++ c2).length = C.length + c2.length := List.length_append
            rw [n40] at hb2
            refine r_X12_summed_15 ?_
            rw [hw2]
            refine ⟨⟨by decide, by decide⟩, fun h => absurd h (by decide), fun _ => ?_⟩
            refine mkI (ls := [some (vR 134), none]) rfl rfl rfl rfl rfl (r_X12_behindOne_0 ⟨⟨by omega, by omega⟩, fun n43 => ⟨fun n45 => ⟨fun n42 => ⟨fun n47 => ?_, fun e => absurd (m6.mp e) hkk.2.1⟩, fun e => absurd (m5.mp e) hkk.1⟩, fun e => absurd (m4.mp e) hkk.2.2.2⟩, fun e => absurd (m3.mp e) hkk.2.2.1⟩)
            refine s_X12_isOpen (d := d + 5) hR2 (by omega) (fun _ => ⟨⟨by decide, by decide⟩, fun h => absurd h (by decide), fun _ => ⟨⟨by omega, by omega⟩, fun e41 => ?_, fun n41 => ?_⟩⟩) (fun h => absurd hop2 h)
            · have ek8 := m8.mp e41
              refine c_settle (d := d + 4) (by decide) hR2 (by rw [hnp2, hCl2]; omega) (by omega) fun g3 f3 j3 hR3 => ?_
              rw [stl_ps hQ hs2 hp2] at hR3
              have hR3 : Rf x0 cs0 g3 (40 :: P) (C ++ c2 ++ dd1 p2 ++ dd1 s2) (8 - (m : Int)) := hR3
              have hT3 : TkR B n k st ln (g3 134) t' := hT2.fr fun j _ _ => j3 j (by omega) (by omega) (by omega)
              have h16 := hR3.2.1
              have h17 := hR3.2.2.2.1
              have hpop := hR3.2.2.1.pop
              have f4 : SuF x0 cs0 g3 (up (up g3 134 16 ((g3 134 16) - 1)) 134 17 ((g3 134 17) - 1)) := ⟨fun q q1 _ _ => by rw [up_off q1, up_off q1], fun j _ _ j16 j17 _ => by rw [up_at, if_neg j17, up_at, if_neg j16], fun i _ => by rw [up_off (by decide), up_off (by decide)]⟩
              have hS4 : Sm B n k st ln pays x0 cs0 (up (up g3 134 16 ((g3 134 16) - 1)) 134 17 ((g3 134 17) - 1)) t' P (C ++ c') (8 - ((m + 1 : Nat) : Int)) 1 := by
                refine ⟨(hL2.fr f3).fr f4, (hss2.fr f3).fr f4, hT3.fr fun j _ _ => by rw [up_at, if_neg (by omega), up_at, if_neg (by omega)], ⟨?_, ?_, hpop.2.fr fun i _ => by rw [up_off (by decide), up_off (by decide)], ?_, ?_, ?_⟩, ?_⟩
                · rw [up_at, if_neg (by decide), up_at, if_neg (by decide)]; exact hR3.1
                · rw [up_at, if_neg (by decide), up_at, if_pos rfl, h16]
                  show ((P.length + 1 : Nat) : Int) - 1 = _
                  omega
                · rw [up_at, if_pos rfl, h17]
                  show 8 - (m : Int) - 1 = _
                  omega
                · rw [up_at, if_neg (by decide), up_at, if_neg (by decide), ← hCe]; exact hR3.2.2.2.2.1
                · rw [← hCe]
                  exact fun i hi => by rw [up_off (by decide), up_off (by decide)]; exact hR3.2.2.2.2.2 i hi
                · rw [up_at, if_neg (by decide), up_at, if_neg (by decide), j3 18 (by decide) (by decide) (by decide)]; exact hw2
              refine c_nextT (d := d + 4) hS4.1 hS4.2.2.1 (by omega) fun g5 o5 j5 hT5 => ?_
              obtain ⟨f5, hS5⟩ := hS4.next o5 j5 hT5
              have lsum : (C ++ c').length = C.length + c2.length + (dd1 p2).length + (dd1 s2).length := by rw [← hCe]; simp only [List.length_append]
              rw [psl_len, psl_len] at hb2
              refine c_settle (d := d + 4) (by decide) hS5.2.2.2.1 (by rw [lsum]; omega) (by omega) fun g6 f6 j6 hR6 => ⟨⟨by decide, by decide⟩, fun h => absurd h (by decide), fun _ => ?_⟩
              refine hok (t' + 1) c' ?_ g6 (f1.tr (f2.tr (f3.tr (f4.tr (f5.tr f6))))) ⟨hS5.1.fr f6, hS5.2.1.fr f6, hT5.fr fun j _ _ => j6 j (by omega) (by omega) (by omega), hR6, by rw [j6 18 (by decide) (by decide) (by decide)]; exact hS5.2.2.2.2⟩
              rw [er, e1]
              unfold clo
              simp only [ek8, if_true]
            · have nk8 : kdF B k st ln t' ≠ 8 := fun h => n41 (m8.mpr h)
              refine ⟨⟨by decide, by decide⟩, fun _ => ?_, fun h => absurd rfl h⟩
              refine s_X12_isOpen (d := d + 6) hR2 (by omega) (fun _ => ⟨⟨by decide, by decide⟩, fun h => absurd h (by decide), fun _ => ?_⟩) (fun h => absurd hop2 h)
              refine hbad 1 t' ?_ g2 (f1.tr f2) hT2.place
              rw [er, e1]
              unfold clo
              simp only [nk8, if_false]
        · -- a minus
          have hr' : ∃ r', OneR (kdF B k st ln) (vlF B k st ln) pays m it (t + 1) r' ∧ r = mapR r' fun c => c ++ [(3, 0)] := by
            rcases hr with h | ⟨h1, _⟩ | ⟨h1, _⟩ | ⟨h1, _⟩ | ⟨h1, _⟩ | ⟨h1, _⟩ | ⟨_, h⟩ | ⟨h1, _⟩
            · have := leaf_kd h; omega
            · omega
            · omega
            · omega
            · omega
            · omega
            · exact h
            · omega
          obtain ⟨r', hone, er⟩ := hr'
          have htk1 := hk t (by omega)
          have m2 : (2 : Int) ∈ (3 :: P) ↔ 2 ∈ P := by
            rw [List.mem_cons]
            exact ⟨fun h => h.resolve_left (by decide), Or.inr⟩
          refine ihm (by omega) hone hS1 (by rw [m2]; exact hit) (by have := hnx 3; omega) (by rw [hlx]; omega) (fun f p e1 g' f' hp' => ?_) (fun t' c' e1 g' f' hS' => ?_)
          · refine hbad f p ?_ g' (f1.tr f') hp'
            rw [er, e1]; rfl
          · refine hok t' (c' ++ [(3, 0)]) (by rw [er, e1]; rfl) g' (f1.tr f') ?_
            have e9 : stl 3 (3 :: P) (C ++ c') (8 - (m : Int)) = stl 3 P (C ++ (c' ++ [(3, 0)])) (8 - ((m + 1 : Nat) : Int)) := by
              show stl 3 P (C ++ c' ++ [(3, 0)]) (8 - (m : Int) - 1) = _
              rw [List.append_assoc, show 8 - (m : Int) - 1 = 8 - ((m + 1 : Nat) : Int) by omega]
            rw [e9] at hS'
            exact hS'
        · exact absurd rfl n2
      · subst e2
        have hk29 : kdF B k st ln t = 29 := by omega
        refine kbad 7 g (by decide) (hbad 7 t ?_ g SuF.rf hS.2.2.1.place)
        rcases hr with h | ⟨_, _, h⟩ | ⟨_, h2, _⟩ | ⟨_, h2, _⟩ | ⟨_, h2, _⟩ | ⟨_, h2, _⟩ | ⟨h1, _⟩ | ⟨h1, _⟩
        · have := leaf_kd h; omega
        · exact h
        · rw [eit] at h2; exact absurd h2 (by decide)
        · rw [eit] at h2; exact absurd h2 (by decide)
        · rw [eit] at h2; exact absurd h2 (by decide)
        · rw [eit] at h2; exact absurd h2 (by decide)
        · omega
        · omega
      · subst e2
        have hk29 : kdF B k st ln t = 29 := by omega
        refine kbad 1 g1 (by decide) (hbad 1 (t + 1) ?_ g1 f1 hp)
        rcases hr with h | ⟨_, h2, _⟩ | ⟨_, _, _, h⟩ | ⟨_, _, h2, _⟩ | ⟨_, _, h2, _⟩ | ⟨_, _, h2, _⟩ | ⟨h1, _⟩ | ⟨h1, _⟩
        · have := leaf_kd h; omega
        · rw [eit] at h2; exact absurd h2 (by decide)
        · exact h
        · exact absurd h2 k1
        · exact absurd h2 k1
        · exact absurd h2 k1
        · omega
        · omega
      · subst e2
        have hk29 : kdF B k st ln t = 29 := by omega
        refine kbad 2 g1 (by decide) (hbad 2 (t + 1) ?_ g1 f1 hp)
        rcases hr with h | ⟨_, h2, _⟩ | ⟨_, _, h2, _⟩ | ⟨_, _, _, _, h⟩ | ⟨_, _, _, h2, _⟩ | ⟨_, _, _, h2, _⟩ | ⟨h1, _⟩ | ⟨h1, _⟩
        · have := leaf_kd h; omega
        · rw [eit] at h2; exact absurd h2 (by decide)
        · exact absurd k1 h2
        · exact h
        · omega
        · omega
        · omega
        · omega
      · subst e2
        have hk29 : kdF B k st ln t = 29 := by omega
        refine kbad 1 g1 (by decide) (hbad 1 (t + 2) ?_ g1 f1 hp)
        rcases hr with h | ⟨_, h2, _⟩ | ⟨_, _, h2, _⟩ | ⟨_, _, _, h2, _⟩ | ⟨_, _, _, _, _, h⟩ | ⟨_, _, _, _, h2, _⟩ | ⟨h1, _⟩ | ⟨h1, _⟩
        · have := leaf_kd h; omega
        · rw [eit] at h2; exact absurd h2 (by decide)
        · exact absurd k1 h2
        · omega
        · exact h
        · exact absurd h2 k2
        · omega
        · omega
      · subst e2
        have hk29 : kdF B k st ln t = 29 := by omega
        have hr' : ∃ r', OneR (kdF B k st ln) (vlF B k st ln) pays m true (t + 3) r' ∧ r = mapR r' fun c => (2, vlF B k st ln (t + 1)) :: (c ++ [(8, 0)]) := by
          rcases hr with h | ⟨_, h2, _⟩ | ⟨_, _, h2, _⟩ | ⟨_, _, _, h2, _⟩ | ⟨_, _, _, _, h2, _⟩ | ⟨_, _, _, _, _, h⟩ | ⟨h1, _⟩ | ⟨h1, _⟩
          · have := leaf_kd h; omega
          · rw [eit] at h2; exact absurd h2 (by decide)
          · exact absurd k1 h2
          · omega
          · exact absurd k2 h2
          · exact h
          · omega
          · omega
        obtain ⟨r', hone, er⟩ := hr'
        have htk2 := hk (t + 2) (by omega)
        rw [eop] at hS1
        have l2 : (C ++ [((2 : Int), vlF B k st ln (t + 1))]).length = C.length + 1 := by simp
        refine ihm (by omega) hone hS1 ⟨fun _ => List.mem_cons_self .., fun _ => rfl⟩ (by rw [l2]; have := hnx 2; omega) (by rw [hlx]; omega) (fun f p e1 g' f' hp' => ?_) (fun t' c' e1 g' f' hS' => ?_)
        · refine hbad f p ?_ g' (f1.tr f') hp'
          rw [er, e1]; rfl
        · refine hok t' ((2, vlF B k st ln (t + 1)) :: (c' ++ [(8, 0)])) (by rw [er, e1]; rfl) g' (f1.tr f') ?_
          have e9 : stl 3 (2 :: P) (C ++ [(2, vlF B k st ln (t + 1))] ++ c') (8 - (m : Int)) = stl 3 P (C ++ ((2, vlF B k st ln (t + 1)) :: (c' ++ [(8, 0)]))) (8 - ((m + 1 : Nat) : Int)) := by
            show stl 3 P (C ++ [(2, vlF B k st ln (t + 1))] ++ c' ++ [(8, 0)]) (8 - (m : Int) - 1) = _
            rw [show C ++ [((2 : Int), vlF B k st ln (t + 1))] ++ c' ++ [((8 : Int), (0 : Int))] = C ++ ((2, vlF B k st ln (t + 1)) :: (c' ++ [(8, 0)])) by simp only [List.append_assoc, List.cons_append, List.nil_append], show 8 - (m : Int) - 1 = 8 - ((m + 1 : Nat) : Int) by omega]
          rw [e9] at hS'
          exact hS'
end MB
