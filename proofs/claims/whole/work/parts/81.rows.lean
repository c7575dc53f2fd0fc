-- rows of members, one after another
theorem nx_rel {f r : Nat → Int} {n : Nat} {l : List Nat} (hf : ∀ i j, i < j → j < n → f i < f j) (hl : okl n l = true) (hr : ∀ c, c < n → r c = f (l.getD c 0)) :
    dis r n ∧ fI r (n - 1) = fI (lf l) (n - 1) ∧ ∀ i : Nat, fI (lf l) (n - 1) = i → ∀ c, c < n → r (nxp n i (fK r (r i) (n - 1)) c) = f ((nxl n l).getD c 0) := by
  have h1 := okl_lt hl
  have h2 := okl_ne hl
  have mono : ∀ i j, i < n → j < n → (r i < r j ↔ lf l i < lf l j) := by
    intro i j hi hj
    rw [hr i hi, hr j hj]
    unfold lf
    have a1 := h1 i hi
    have a2 := h1 j hj
    constructor
    · intro h
      by_cases e : l.getD i 0 < l.getD j 0
      · omega
      · by_cases e2 : l.getD i 0 = l.getD j 0
        · rw [e2] at h; omega
        · have := hf _ _ (show l.getD j 0 < l.getD i 0 by omega) a1
          omega
    · intro h
      exact hf _ _ (by omega) a2
  refine ⟨fun i j hi hj hij he => ?_, fI_congr fun j hj => mono j (j + 1) (by omega) (by omega), fun i hi c hc => ?_⟩
  · have a3 := h2 i j hi hj hij
    have m1 := (mono i j hi hj).mpr
    have m2 := (mono j i hj hi).mpr
    unfold lf at m1 m2
    rcases Nat.lt_or_gt_of_ne a3 with h | h
    · have := m1 (by omega); omega
    · have := m2 (by omega); omega
  · have hb := fI_b (lf l) (n - 1)
    have hlt := fI_lt hi
    have hk := fK_in hlt (show i + 1 ≤ n - 1 by omega)
    have e1 : fK r (r i) (n - 1) = fK (lf l) (lf l i) (n - 1) := fK_congr fun j hj => mono i j (by omega) (by omega)
    rw [e1, nxl_get hc, hi, show ((i : Int)).toNat = i from rfl]
    exact hr _ (nxp_lt hc (by omega) (by omega))
/-- the c-th member of a set -/
def mq (s : Int) (c : Nat) : Nat → Int
  | 0 => 0
  | k + 1 => if bt s k = 1 ∧ sm (bt s) k = (c : Int) then (k : Int) else mq s c k
def mf (s : Int) (c : Nat) : Int := mq s c 7
theorem mf_at {s : Int} {i : Nat} (hi : i < 7) (hb : bt s i = 1) : mf s (sm (bt s) i).toNat = (i : Int) := by
  have h0 := cnt_b s i
  have key : ∀ k, i < k → mq s (sm (bt s) i).toNat k = (i : Int) := by
    intro k hk
    induction k with
    | zero => omega
    | succ k ih =>
      unfold mq
      by_cases e : k = i
      · subst e
        rw [if_pos ⟨hb, by omega⟩]
      · have h1 := bt_sum_le s (show i + 1 ≤ k by omega)
        have h2 : sm (bt s) (i + 1) = sm (bt s) i + bt s i := rfl
        rw [if_neg (fun h => by omega)]
        exact ih (by omega)
  exact key 7 hi
theorem mem_ex (s : Int) : ∀ k c : Nat, (c : Int) < sm (bt s) k → ∃ i, i < k ∧ bt s i = 1 ∧ sm (bt s) i = (c : Int) := by
  intro k
  induction k with
  | zero => intro c h; have h' : (c : Int) < 0 := h; omega
  | succ k ih =>
    intro c h
    have h2 : sm (bt s) (k + 1) = sm (bt s) k + bt s k := rfl
    have h3 := bt01 s k
    by_cases e : (c : Int) < sm (bt s) k
    · obtain ⟨i, h4, h5, h6⟩ := ih c e
      exact ⟨i, by omega, h5, h6⟩
    · exact ⟨k, by omega, by omega, by omega⟩
theorem mf_ex {s : Int} {c : Nat} (h : (c : Int) < sm (bt s) 7) : ∃ i : Nat, i < 7 ∧ bt s i = 1 ∧ sm (bt s) i = (c : Int) ∧ mf s c = (i : Int) := by
  obtain ⟨i, h1, h2, h3⟩ := mem_ex s 7 c h
  have := mf_at h1 h2
  rw [h3] at this
  exact ⟨i, h1, h2, h3, this⟩
theorem mf_lt {s : Int} {c c' : Nat} (h : c < c') (h' : (c' : Int) < sm (bt s) 7) : mf s c < mf s c' := by
  obtain ⟨i, h1, h2, h3, h4⟩ := mf_ex (s := s) (c := c) (by omega)
  obtain ⟨j, j1, j2, j3, j4⟩ := mf_ex h'
  have : ¬ j ≤ i := fun hle => by have := bt_sum_le s hle; omega
  omega
theorem mf_of {s : Int} {f : Nat → Int} (h : ∀ i : Nat, i < 7 → bt s i = 1 → f (sm (bt s) i).toNat = (i : Int)) {c : Nat} (hc : (c : Int) < sm (bt s) 7) : f c = mf s c := by
  obtain ⟨i, h1, h2, h3, h4⟩ := mf_ex hc
  have := h i h1 h2
  rw [h3] at this
  rw [h4, ← this]; rfl
theorem s_X11_membersOf {d : Nat} {dd : List (Nat × Nat)} {sh : Nat → Nat → Nat} {g : Nat → Nat → Int} {K : Int → (Nat → Nat → Int) → Prop} {s : Int} {p L : Nat} (hp : p ≠ 0) (hT : (T0 ++ dyn dd)[p]? = some (0, L)) (hL : 6 ≤ L ∧ L ≤ 7) (h0 : 0 ≤ s ∧ s ≤ 2147483647) (h5 : sm (bt s) 7 ≤ 5) (hK : ∀ g', (∀ q, q ≠ p → g' q = g q) → (∀ c : Nat, (c : Int) < sm (bt s) 7 → g' p c = mf s c) → K (sm (bt s) 7) g') : cI (d + 2) m_X11_membersOf [(vI s), (vR p)] dd sh g K := by
  refine mkI (ls := [some (vI s), some (vR p), none, none]) rfl rfl rfl rfl rfl (r_X11_membersOf_0 ?_)
  refine loop (P := fun k => ∀ g', (∀ q, q ≠ p → g' q = g q) → (∀ i : Nat, i < k → bt s i = 1 → g' p (sm (bt s) i).toNat = (i : Int)) → rI (d + 1) m_X11_membersOf 4 [some (vI s), some (vR p), some (vI (sm (bt s) k)), some (vI ((k : Int)))] [] dd sh (g') K) (n := 7) ?_ ?_ 0 (by omega) g (fun _ _ => rfl) (fun i hi => absurd hi (by omega))
  · intro g' f1 f2
    refine r_X11_membersOf_4 ?_
    exact ⟨⟨by decide, by decide⟩, fun _ => hK g' f1 fun c hc => mf_of (fun i hi hb => f2 i hi hb) hc, fun h => absurd h (by decide)⟩
  · intro k hk ih g' f1 f2
    have hc := cnt_b s k
    have hst : sm (bt s) (k + 1) = sm (bt s) k + bt s k := rfl
    have hle := bt_sum_le s (show k ≤ 7 by omega)
    refine r_X11_membersOf_4 ?_
    rw [lenT hT]
    refine ⟨⟨by omega, by omega⟩, fun h => absurd h (by omega), fun _ => ⟨arT hp hT, ⟨by omega, by omega⟩, ⟨by omega, by omega⟩, fun h => absurd h (by omega), fun _ => ?_⟩⟩
    refine s_X11_hasBit h0.1 h0.2 (by omega) (by omega) fun r er r0 r1 => ⟨⟨by omega, by omega⟩, fun h => ?_, fun h => ⟨by omega, by omega, ?_⟩⟩
    · have eb : bt s k = 0 := by rw [show ((k : Int)).toNat = k from rfl] at er; omega
      rw [eb, Int.add_zero] at hst
      have hh := ih g' f1 (fun i hi hb => by
        by_cases hik : i = k
        · subst hik; omega
        · exact f2 i (by omega) hb)
      rw [hst] at hh
      exact hh
    · have eb : bt s k = 1 := by rw [show ((k : Int)).toNat = k from rfl] at er; omega
      rw [eb] at hst
      have hh := ih (up g' p (sm (bt s) k).toNat (k : Int)) (fun q q1 => by rw [up_off q1]; exact f1 q q1) (fun i hi hb => by
        rw [up_at]
        by_cases hik : i = k
        · subst hik; rw [if_pos rfl]
        · have h1 := bt_sum_le s (show i + 1 ≤ k by omega)
          have h2 : sm (bt s) (i + 1) = sm (bt s) i + bt s i := rfl
          have h3 := cnt_b s i
          rw [if_neg (by omega)]
          exact f2 i (by omega) hb)
      rw [hst] at hh
      exact hh
theorem range_get {n c : Nat} (h : c < n) : (List.range n).getD c 0 = c := by
  rw [List.getD_eq_getElem?_getD, List.getElem?_range h]; rfl
theorem chk_pos {n f : Nat} {l : List Nat} (h : chk n f l = true) : ∃ f', f = f' + 1 ∧ okl n l = true ∧ (fI (lf l) (n - 1) = -1 ∨ chk n f' (nxl n l) = true) := by
  cases f with
  | zero => exact absurd h (by unfold chk; decide)
  | succ f' =>
    unfold chk at h
    rw [Bool.and_eq_true, Bool.or_eq_true] at h
    exact ⟨f', rfl, h.1, h.2.imp of_decide_eq_true id⟩
theorem rows_end {S : Type} (step : S → List Nat → S) {n f : Nat} {l : List Nat} {s : S} (h : fI (lf l) (n - 1) = -1) : rows step n (f + 1) l s = step s l := if_pos h
theorem rows_on {S : Type} (step : S → List Nat → S) {n f i : Nat} {l : List Nat} {s : S} (h : fI (lf l) (n - 1) = (i : Int)) : rows step n (f + 1) l s = rows step n f (nxl n l) (step s l) := if_neg (by omega)
