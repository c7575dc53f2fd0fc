-- what a law's text says, token by token
abbrev LRes := (Int × Nat) ⊕ (Nat × List (Int × Int))
def dd1 (x : Int) : List (Int × Int) := if x = -1 then [] else [(x, 0)]
def mapR (r : LRes) (f : List (Int × Int) → List (Int × Int)) : LRes := match r with
  | .inl e => .inl e
  | .inr (t, c) => .inr (t, f c)
def clo (kd : Nat → Int) (r : LRes) : LRes := match r with
  | .inl e => .inl e
  | .inr (t, c) => if kd t = 8 then .inr (t + 1, c) else .inl (1, t)
def no5 (w : Nat) (pays it : Bool) : Prop := (5 ≤ w ∧ w ≤ 7 ∧ pays = true) ∨ (w = 8 ∧ it = false)
def Leaf (kd vl : Nat → Int) (pays it : Bool) (t : Nat) (r : LRes) : Prop :=
  (kd t = 2 ∧ vl t ≤ 9999 ∧ r = .inr (t + 1, [(0, vl t)])) ∨ (kd t = 2 ∧ 9999 < vl t ∧ r = .inl (2, t)) ∨
  (∃ w : Nat, kd t = 20 + (w : Int) ∧ w ≤ 8 ∧ no5 w pays it ∧ r = .inl (5, t)) ∨ (∃ w : Nat, kd t = 20 + (w : Int) ∧ w ≤ 8 ∧ ¬ no5 w pays it ∧ r = .inr (t + 1, [(1, (w : Int))])) ∨
  (kd t ≠ 2 ∧ ¬ (20 ≤ kd t ∧ kd t ≤ 28) ∧ kd t ≠ 7 ∧ kd t ≠ 4 ∧ kd t ≠ 29 ∧ r = .inl (1, t))
def SumR (One : Nat → LRes → Prop) (kd : Nat → Int) : Nat → Nat → List (Int × Int) → Int → Int → LRes → Prop
  | 0, _, _, _, _, _ => False
  | f + 1, t, c, s, p, r => (∃ e, One t (.inl e) ∧ r = .inl e) ∨
    ∃ t1 c1, One t (.inr (t1, c1)) ∧
      ((kd t1 = 5 ∧ SumR One kd f (t1 + 1) (c ++ c1 ++ dd1 p) s 6 r) ∨ (kd t1 = 6 ∧ SumR One kd f (t1 + 1) (c ++ c1 ++ dd1 p) s 7 r) ∨
       (kd t1 = 3 ∧ SumR One kd f (t1 + 1) (c ++ c1 ++ dd1 p ++ dd1 s) 4 (-1) r) ∨ (kd t1 = 4 ∧ SumR One kd f (t1 + 1) (c ++ c1 ++ dd1 p ++ dd1 s) 5 (-1) r) ∨
       (kd t1 ≠ 5 ∧ kd t1 ≠ 6 ∧ kd t1 ≠ 3 ∧ kd t1 ≠ 4 ∧ r = .inr (t1, c ++ c1 ++ dd1 p ++ dd1 s)))
def OneR (kd vl : Nat → Int) (pays : Bool) : Nat → Bool → Nat → LRes → Prop
  | 0, it, t, r => Leaf kd vl pays it t r ∨ ((kd t = 7 ∨ kd t = 4 ∨ kd t = 29) ∧ r = .inl (3, t))
  | m + 1, it, t, r => Leaf kd vl pays it t r ∨
    (kd t = 29 ∧ it = true ∧ r = .inl (7, t)) ∨
    (kd t = 29 ∧ it = false ∧ kd (t + 1) ≠ 2 ∧ r = .inl (1, t + 1)) ∨
    (kd t = 29 ∧ it = false ∧ kd (t + 1) = 2 ∧ (vl (t + 1) < 1 ∨ 9 < vl (t + 1)) ∧ r = .inl (2, t + 1)) ∨
    (kd t = 29 ∧ it = false ∧ kd (t + 1) = 2 ∧ (1 ≤ vl (t + 1) ∧ vl (t + 1) ≤ 9) ∧ kd (t + 2) ≠ 30 ∧ r = .inl (1, t + 2)) ∨
    (kd t = 29 ∧ it = false ∧ kd (t + 1) = 2 ∧ (1 ≤ vl (t + 1) ∧ vl (t + 1) ≤ 9) ∧ kd (t + 2) = 30 ∧ ∃ r', OneR kd vl pays m true (t + 3) r' ∧ r = mapR r' fun c => (2, vl (t + 1)) :: (c ++ [(8, 0)])) ∨
    (kd t = 4 ∧ ∃ r', OneR kd vl pays m it (t + 1) r' ∧ r = mapR r' fun c => c ++ [(3, 0)]) ∨
    (kd t = 7 ∧ ∃ r', SumR (OneR kd vl pays m it) kd 300 (t + 1) [] (-1) (-1) r' ∧ r = clo kd r')
theorem mapR_ok {r : LRes} {f : List (Int × Int) → List (Int × Int)} {t : Nat} {c : List (Int × Int)} (h : .inr (t, c) = mapR r f) : ∃ c', r = .inr (t, c') ∧ c = f c' := by
  cases r with
  | inl e => exact absurd h (by unfold mapR; intro x; cases x)
  | inr x =>
    obtain ⟨t', c'⟩ := x
    unfold mapR at h
    cases h
    exact ⟨c', rfl, rfl⟩
theorem mapR_bad {r : LRes} {f : List (Int × Int) → List (Int × Int)} {e : Int × Nat} (h : .inl e = mapR r f) : r = .inl e := by
  cases r with
  | inl e' => unfold mapR at h; exact h.symm
  | inr x => exact absurd h (by unfold mapR; intro x; cases x)
theorem clo_ok {kd : Nat → Int} {r : LRes} {t : Nat} {c : List (Int × Int)} (h : .inr (t, c) = clo kd r) : ∃ t', t = t' + 1 ∧ kd t' = 8 ∧ r = .inr (t', c) := by
  cases r with
  | inl e => exact absurd h (by unfold clo; intro x; cases x)
  | inr x =>
    obtain ⟨t', c'⟩ := x
    unfold clo at h
    by_cases e : kd t' = 8
    · simp only [e, if_true] at h
      cases h
      exact ⟨t', rfl, e, rfl⟩
    · simp only [e, if_false] at h
      cases h
theorem clo_bad {kd : Nat → Int} {r : LRes} {e : Int × Nat} (h : .inl e = clo kd r) : r = .inl e ∨ ∃ t' c, r = .inr (t', c) ∧ kd t' ≠ 8 ∧ e = (1, t') := by
  cases r with
  | inl e' => unfold clo at h; exact Or.inl h.symm
  | inr x =>
    obtain ⟨t', c'⟩ := x
    unfold clo at h
    by_cases e8 : kd t' = 8
    · simp only [e8, if_true] at h
      cases h
    · simp only [e8, if_false] at h
      cases h
      exact Or.inr ⟨t', c', rfl, e8, rfl⟩
def v0 (c : List (Int × Int)) : Prop := ∀ x, x ∈ c → 2 < x.1 → x.2 = 0
theorem v0_app {c c' : List (Int × Int)} (h : v0 c) (h' : v0 c') : v0 (c ++ c') := fun x hx h2 => by
  rcases List.mem_append.mp hx with a | a
  · exact h x a h2
  · exact h' x a h2
theorem v0_one {a : Int} : v0 [(a, 0)] := fun x hx _ => by
  rw [List.mem_singleton] at hx
  rw [hx]
theorem v0_dd1 {a : Int} : v0 (dd1 a) := by
  unfold dd1
  split
  · intro x hx; exact absurd hx (by simp)
  · exact v0_one
theorem dd1_len (a : Int) : (dd1 a).length ≤ 1 ∧ (a = -1 → (dd1 a).length = 0) ∧ (a ≠ -1 → (dd1 a).length = 1) := by
  unfold dd1
  by_cases e : a = -1
  · rw [if_pos e]; exact ⟨by simp, fun _ => rfl, fun h => absurd e h⟩
  · rw [if_neg e]; exact ⟨by simp, fun h => absurd h e, fun _ => rfl⟩
/-- what one that stands yields -/
def OkR (k t t' : Nat) (c : List (Int × Int)) : Prop := t < t' ∧ t' ≤ k ∧ 1 ≤ c.length ∧ c.length ≤ t' - t ∧ v0 c
theorem sum_ok {One : Nat → LRes → Prop} {kd : Nat → Int} {k : Nat} (hk : ∀ t, kd t ≠ 0 → t < k) (hO : ∀ t t' c, t ≤ k → One t (.inr (t', c)) → OkR k t t' c) : ∀ f t c s p t' c', t ≤ k → v0 c → SumR One kd f t c s p (.inr (t', c')) → (∃ w, c' = c ++ w ∧ 1 ≤ w.length) ∧ t < t' ∧ t' ≤ k ∧ c'.length ≤ c.length + (dd1 p).length + (dd1 s).length + (t' - t) ∧ v0 c' := by
  intro f
  induction f with
  | zero => intro t c s p t' c' _ _ h; exact absurd h (by unfold SumR; exact id)
  | succ f ih =>
    intro t c s p t' c' htk hv h
    unfold SumR at h
    rcases h with ⟨e, _, h⟩ | ⟨t1, c1, h1, h⟩
    · cases h
    · obtain ⟨o1, o2, o3, o4, o5⟩ := hO t t1 c1 htk h1
      have l6 := (dd1_len 6).2.2 (by decide)
      have l7 := (dd1_len 7).2.2 (by decide)
      have l4 := (dd1_len 4).2.2 (by decide)
      have l5 := (dd1_len 5).2.2 (by decide)
      have lm := (dd1_len (-1)).2.1 rfl
      have va : v0 (c ++ c1 ++ dd1 p) := v0_app (v0_app hv o5) v0_dd1
      have vb : v0 (c ++ c1 ++ dd1 p ++ dd1 s) := v0_app va v0_dd1
      rcases h with ⟨hk1, h⟩ | ⟨hk1, h⟩ | ⟨hk1, h⟩ | ⟨hk1, h⟩ | ⟨_, _, _, _, h⟩
      · obtain ⟨⟨w, w1, w2⟩, a1, a2, a3, a4⟩ := ih _ _ _ _ _ _ (by have := hk t1 (by omega); omega) va h
        refine ⟨⟨c1 ++ dd1 p ++ w, by rw [w1]; simp only [List.append_assoc], by simp only [List.length_append]; omega⟩, by omega, a2, ?_, a4⟩
        simp only [List.length_append] at a3
        omega
      · obtain ⟨⟨w, w1, w2⟩, a1, a2, a3, a4⟩ := ih _ _ _ _ _ _ (by have := hk t1 (by omega); omega) va h
        refine ⟨⟨c1 ++ dd1 p ++ w, by rw [w1]; simp only [List.append_assoc], by simp only [List.length_append]; omega⟩, by omega, a2, ?_, a4⟩
        simp only [List.length_append] at a3
        omega
      · obtain ⟨⟨w, w1, w2⟩, a1, a2, a3, a4⟩ := ih _ _ _ _ _ _ (by have := hk t1 (by omega); omega) vb h
        refine ⟨⟨c1 ++ dd1 p ++ dd1 s ++ w, by rw [w1]; simp only [List.append_assoc], by simp only [List.length_append]; omega⟩, by omega, a2, ?_, a4⟩
        simp only [List.length_append] at a3
        omega
      · obtain ⟨⟨w, w1, w2⟩, a1, a2, a3, a4⟩ := ih _ _ _ _ _ _ (by have := hk t1 (by omega); omega) vb h
        refine ⟨⟨c1 ++ dd1 p ++ dd1 s ++ w, by rw [w1]; simp only [List.append_assoc], by simp only [List.length_append]; omega⟩, by omega, a2, ?_, a4⟩
        simp only [List.length_append] at a3
        omega
      · cases h
        refine ⟨⟨c1 ++ dd1 p ++ dd1 s, by simp only [List.append_assoc], by simp only [List.length_append]; omega⟩, o1, o2, ?_, vb⟩
        simp only [List.length_append]
        omega
theorem leaf_ok {kd vl : Nat → Int} {k : Nat} (hk : ∀ t, kd t ≠ 0 → t < k) {pays it : Bool} {t t' : Nat} {c : List (Int × Int)} (h : Leaf kd vl pays it t (.inr (t', c))) : OkR k t t' c := by
  rcases h with ⟨h1, h2, h⟩ | ⟨h1, h2, h⟩ | ⟨w, h1, h2, h3, h⟩ | ⟨w, h1, h2, h3, h⟩ | ⟨_, _, _, _, _, h⟩
  · cases h
    have := hk t (by omega)
    exact ⟨by omega, by omega, by simp, by simp, fun x hx h2 => by rw [List.mem_singleton] at hx; rw [hx] at h2; exact absurd h2 (by show ¬ (2 : Int) < 0; decide)⟩
  · cases h
  · cases h
  · cases h
    have := hk t (by omega)
    exact ⟨by omega, by omega, by simp, by simp, fun x hx h2 => by rw [List.mem_singleton] at hx; rw [hx] at h2; exact absurd h2 (by show ¬ (2 : Int) < 1; decide)⟩
  · cases h
theorem one_ok {kd vl : Nat → Int} {k : Nat} (hk : ∀ t, kd t ≠ 0 → t < k) {pays : Bool} : ∀ m it t t' c, t ≤ k → OneR kd vl pays m it t (.inr (t', c)) → OkR k t t' c := by
  intro m
  induction m with
  | zero =>
    intro it t t' c _ h
    unfold OneR at h
    rcases h with h | ⟨_, h⟩
    · exact leaf_ok hk h
    · cases h
  | succ m ih =>
    intro it t t' c htk h
    unfold OneR at h
    rcases h with h | ⟨_, _, h⟩ | ⟨_, _, _, h⟩ | ⟨_, _, _, _, h⟩ | ⟨_, _, _, _, _, h⟩ | ⟨h1, _, h2, _, h3, r', h4, h⟩ | ⟨h1, r', h4, h⟩ | ⟨h1, r', h4, h⟩
    · exact leaf_ok hk h
    · cases h
    · cases h
    · cases h
    · cases h
    · obtain ⟨c', e1, e2⟩ := mapR_ok h
      rw [e1] at h4
      have := hk (t + 2) (by omega)
      obtain ⟨a1, a2, a3, a4, a5⟩ := ih true (t + 3) t' c' (by omega) h4
      rw [e2]
      refine ⟨by omega, a2, by simp, by simp; omega, ?_⟩
      intro x hx h2
      rcases List.mem_cons.mp hx with a | a
      · rw [a] at h2; exact absurd h2 (by show ¬ (2 : Int) < 2; decide)
      · exact v0_app a5 v0_one x a h2
    · obtain ⟨c', e1, e2⟩ := mapR_ok h
      rw [e1] at h4
      have := hk t (by omega)
      obtain ⟨a1, a2, a3, a4, a5⟩ := ih it (t + 1) t' c' (by omega) h4
      rw [e2]
      exact ⟨by omega, a2, by simp, by simp; omega, v0_app a5 v0_one⟩
    · obtain ⟨t1, e1, e2, e3⟩ := clo_ok h
      rw [e3] at h4
      have h0 := hk t (by omega)
      have h8 := hk t1 (by omega)
      obtain ⟨⟨w, w1, w2⟩, a1, a2, a3, a4⟩ := sum_ok hk (fun t t' c h => ih it t t' c h) 300 (t + 1) [] (-1) (-1) t1 c (by omega) (fun x hx => absurd hx (by simp)) h4
      have lm := (dd1_len (-1)).2.1 rfl
      have lc : ([] : List (Int × Int)).length = 0 := rfl
      have lw : c.length = w.length := by rw [w1]; simp
      exact ⟨by omega, by omega, by omega, by omega, a4⟩
theorem f17 {a : Int} {b : Nat} (h : 1 ≤ a ∧ a ≤ 7) : 1 ≤ ((a, b) : Int × Nat).1 ∧ ((a, b) : Int × Nat).1 ≤ 7 := h
theorem leaf_bad {kd vl : Nat → Int} {pays it : Bool} {t : Nat} {e : Int × Nat} (h : Leaf kd vl pays it t (.inl e)) : (1 ≤ e.1 ∧ e.1 ≤ 7) ∧ e.2 = t := by
  rcases h with ⟨h1, h2, h⟩ | ⟨h1, h2, h⟩ | ⟨w, h1, h2, h3, h⟩ | ⟨w, h1, h2, h3, h⟩ | ⟨_, _, _, _, _, h⟩
  · cases h
  · cases h; exact ⟨f17 (by decide), rfl⟩
  · cases h; exact ⟨f17 (by decide), rfl⟩
  · cases h
  · cases h; exact ⟨f17 (by decide), rfl⟩
theorem sum_bad {One : Nat → LRes → Prop} {kd : Nat → Int} {k : Nat} (hk : ∀ t, kd t ≠ 0 → t < k) (hO : ∀ t t' c, t ≤ k → One t (.inr (t', c)) → OkR k t t' c) (hB : ∀ t e, t ≤ k → One t (.inl e) → (1 ≤ e.1 ∧ e.1 ≤ 7) ∧ e.2 ≤ k) : ∀ f t c s p e, t ≤ k → SumR One kd f t c s p (.inl e) → (1 ≤ e.1 ∧ e.1 ≤ 7) ∧ e.2 ≤ k := by
  intro f
  induction f with
  | zero => intro t c s p e _ h; exact absurd h (by unfold SumR; exact id)
  | succ f ih =>
    intro t c s p e htk h
    unfold SumR at h
    rcases h with ⟨e', h1, h⟩ | ⟨t1, c1, h1, h⟩
    · cases h; exact hB t e htk h1
    · rcases h with ⟨hk1, h⟩ | ⟨hk1, h⟩ | ⟨hk1, h⟩ | ⟨hk1, h⟩ | ⟨_, _, _, _, h⟩
      · exact ih _ _ _ _ _ (by have := hk t1 (by omega); omega) h
      · exact ih _ _ _ _ _ (by have := hk t1 (by omega); omega) h
      · exact ih _ _ _ _ _ (by have := hk t1 (by omega); omega) h
      · exact ih _ _ _ _ _ (by have := hk t1 (by omega); omega) h
      · cases h
theorem one_bad {kd vl : Nat → Int} {k : Nat} (hk : ∀ t, kd t ≠ 0 → t < k) {pays : Bool} : ∀ m it t e, t ≤ k → OneR kd vl pays m it t (.inl e) → (1 ≤ e.1 ∧ e.1 ≤ 7) ∧ e.2 ≤ k := by
  intro m
  induction m with
  | zero =>
    intro it t e htk h
    unfold OneR at h
    rcases h with h | ⟨_, h⟩
    · have := leaf_bad h; exact ⟨this.1, by omega⟩
    · cases h; exact ⟨f17 (by decide), htk⟩
  | succ m ih =>
    intro it t e htk h
    unfold OneR at h
    rcases h with h | ⟨_, _, h⟩ | ⟨h1, _, _, h⟩ | ⟨h1, _, h2, _, h⟩ | ⟨h1, _, h2, _, _, h⟩ | ⟨h1, _, h2, _, h3, r', h4, h⟩ | ⟨h1, r', h4, h⟩ | ⟨h1, r', h4, h⟩
    · have := leaf_bad h; exact ⟨this.1, by omega⟩
    · cases h; exact ⟨f17 (by decide), htk⟩
    · cases h
      have := hk t (by omega)
      exact ⟨f17 (by decide), by show t + 1 ≤ k; omega⟩
    · cases h
      have := hk t (by omega)
      exact ⟨f17 (by decide), by show t + 1 ≤ k; omega⟩
    · cases h
      have := hk (t + 1) (by omega)
      exact ⟨f17 (by decide), by show t + 2 ≤ k; omega⟩
    · have e1 := mapR_bad h
      rw [e1] at h4
      have := hk (t + 2) (by omega)
      exact ih true (t + 3) e (by omega) h4
    · have e1 := mapR_bad h
      rw [e1] at h4
      have := hk t (by omega)
      exact ih it (t + 1) e (by omega) h4
    · have h0 := hk t (by omega)
      rcases clo_bad h with e1 | ⟨t1, c, e1, e2, e3⟩
      · rw [e1] at h4
        exact sum_bad hk (fun t t' c hh h => one_ok hk m it t t' c hh h) (fun t e hh h => ih it t e hh h) 300 (t + 1) [] (-1) (-1) e (by omega) h4
      · rw [e1] at h4
        obtain ⟨_, a1, a2, a3, a4⟩ := sum_ok hk (fun t t' c hh h => one_ok hk m it t t' c hh h) 300 (t + 1) [] (-1) (-1) t1 c (by omega) (fun x hx => absurd hx (by simp)) h4
        rw [e3]
        exact ⟨⟨show (1 : Int) ≤ 1 by decide, show (1 : Int) ≤ 7 by decide⟩, a2⟩
-- what is said has a value
def AtC (o v : Nat → Int) (lo : Nat) (c : List (Int × Int)) : Prop := ∀ i, i < c.length → o (lo + i) = (c.getD i (0, 0)).1 ∧ v (lo + i) = (c.getD i (0, 0)).2
theorem getD_left {c c' : List (Int × Int)} {i : Nat} (h : i < c.length) : (c ++ c').getD i (0, 0) = c.getD i (0, 0) := by
  rw [List.getD_eq_getElem?_getD, List.getD_eq_getElem?_getD, List.getElem?_append_left h]
theorem getD_right {c c' : List (Int × Int)} {i : Nat} : (c ++ c').getD (c.length + i) (0, 0) = c'.getD i (0, 0) := by
  rw [List.getD_eq_getElem?_getD, List.getD_eq_getElem?_getD, List.getElem?_append_right (by omega), Nat.add_sub_cancel_left]
theorem AtC.left {o v : Nat → Int} {lo : Nat} {c c' : List (Int × Int)} (h : AtC o v lo (c ++ c')) : AtC o v lo c := fun i hi => by
  have := h i (by rw [List.length_append]; omega)
  rw [getD_left hi] at this
  exact this
theorem AtC.right {o v : Nat → Int} {lo : Nat} {c c' : List (Int × Int)} (h : AtC o v lo (c ++ c')) : AtC o v (lo + c.length) c' := fun i hi => by
  have := h (c.length + i) (by rw [List.length_append]; omega)
  rw [getD_right] at this
  rw [Nat.add_assoc]
  exact this
theorem AtC.one {o v : Nat → Int} {lo : Nat} {a b : Int} (h : AtC o v lo [(a, b)]) : o lo = a ∧ v lo = b := h 0 (by simp)
def Acc (o v : Nat → Int) (pays it : Bool) (m lo len : Nat) (s p : Int) : Prop :=
  (s = -1 ∧ p = -1 ∧ len = 0) ∨ (s = -1 ∧ (p = 6 ∨ p = 7) ∧ EvSeg o v pays it lo (lo + len) (3 + 3 * m)) ∨ ((s = 4 ∨ s = 5) ∧ p = -1 ∧ EvSeg o v pays it lo (lo + len) (4 + 3 * m)) ∨
  ((s = 4 ∨ s = 5) ∧ (p = 6 ∨ p = 7) ∧ ∃ mid, lo ≤ mid ∧ mid ≤ lo + len ∧ EvSeg o v pays it lo mid (4 + 3 * m) ∧ EvSeg o v pays it mid (lo + len) (3 + 3 * m))
/-- behind one more: the product is put -/
theorem Acc.prod {o v : Nat → Int} {pays it : Bool} {m lo : Nat} {s p : Int} {c c1 : List (Int × Int)} (hA : Acc o v pays it m lo c.length s p) (hE : EvSeg o v pays it (lo + c.length) (lo + c.length + c1.length) (1 + 3 * m)) (hat : AtC o v lo (c ++ c1 ++ dd1 p)) :
    (s = -1 ∧ EvSeg o v pays it lo (lo + (c ++ c1 ++ dd1 p).length) (3 + 3 * m)) ∨ ((s = 4 ∨ s = 5) ∧ ∃ mid, lo ≤ mid ∧ mid ≤ lo + (c ++ c1 ++ dd1 p).length ∧ EvSeg o v pays it lo mid (4 + 3 * m) ∧ EvSeg o v pays it mid (lo + (c ++ c1 ++ dd1 p).length) (3 + 3 * m)) := by
  have hp : ∀ st, st ≤ lo + c.length → (p = 6 ∨ p = 7) → EvSeg o v pays it st (lo + c.length) (3 + 3 * m) → EvSeg o v pays it st (lo + (c ++ c1 ++ dd1 p).length) (3 + 3 * m) := fun st hst h67 h => by
    have ed : dd1 p = [(p, 0)] := if_neg (by omega)
    rw [ed] at hat ⊢
    have ho := (hat.right).one.1
    rw [List.length_append] at ho
    have := ev_bin h hE hst (by omega) (by omega) (by omega) (by rw [Nat.add_assoc, ho]; omega)
    have el : lo + (c ++ c1 ++ [(p, (0 : Int))]).length = lo + c.length + c1.length + 1 := by simp only [List.length_append, List.length_singleton]; omega
    rw [el]
    exact this
  have hn : p = -1 → EvSeg o v pays it (lo + c.length) (lo + (c ++ c1 ++ dd1 p).length) (3 + 3 * m) := fun h => by
    have ed : dd1 p = [] := if_pos h
    rw [ed]
    have el : lo + (c ++ c1 ++ ([] : List (Int × Int))).length = lo + c.length + c1.length := by simp only [List.length_append, List.length_nil]; omega
    rw [el]
    exact hE.mono (by omega)
  have hlen : lo + c.length ≤ lo + (c ++ c1 ++ dd1 p).length := by simp only [List.length_append]; omega
  rcases hA with ⟨a1, a2, a3⟩ | ⟨a1, a2, a3⟩ | ⟨a1, a2, a3⟩ | ⟨a1, a2, mid, b1, b2, b3, b4⟩
  · refine Or.inl ⟨a1, ?_⟩
    have := hn a2
    rw [a3] at this
    exact this
  · exact Or.inl ⟨a1, hp lo (by omega) a2 a3⟩
  · exact Or.inr ⟨a1, lo + c.length, by omega, hlen, a3, hn a2⟩
  · exact Or.inr ⟨a1, mid, b1, by omega, b3, hp mid b2 a2 b4⟩
/-- and the sum -/
theorem Acc.sum {o v : Nat → Int} {pays it : Bool} {m lo : Nat} {s : Int} {c : List (Int × Int)} (h : (s = -1 ∧ EvSeg o v pays it lo (lo + c.length) (3 + 3 * m)) ∨ ((s = 4 ∨ s = 5) ∧ ∃ mid, lo ≤ mid ∧ mid ≤ lo + c.length ∧ EvSeg o v pays it lo mid (4 + 3 * m) ∧ EvSeg o v pays it mid (lo + c.length) (3 + 3 * m))) (hat : AtC o v lo (c ++ dd1 s)) : EvSeg o v pays it lo (lo + (c ++ dd1 s).length) (4 + 3 * m) := by
  rcases h with ⟨e, h⟩ | ⟨e, mid, b1, b2, b3, b4⟩
  · have ed : dd1 s = [] := if_pos e
    rw [ed, List.append_nil]
    exact h.mono (by omega)
  · have ed : dd1 s = [(s, 0)] := if_neg (by omega)
    rw [ed] at hat ⊢
    have ho := (hat.right).one.1
    have := ev_bin b3 b4 b1 b2 (by omega) (by omega) (by rw [ho]; omega)
    have el : lo + (c ++ [(s, (0 : Int))]).length = lo + c.length + 1 := by simp only [List.length_append, List.length_singleton]; omega
    rw [el]
    exact this
theorem sum_ev {One : Nat → LRes → Prop} {kd : Nat → Int} {k m lo : Nat} {o v : Nat → Int} {pays it : Bool} (hk : ∀ t, kd t ≠ 0 → t < k) (hO : ∀ t t' c, t ≤ k → One t (.inr (t', c)) → OkR k t t' c) (hE : ∀ t t' c l, t ≤ k → One t (.inr (t', c)) → AtC o v l c → l + c.length ≤ 900 → EvSeg o v pays it l (l + c.length) (1 + 3 * m)) : ∀ f t c s p t' c', t ≤ k → SumR One kd f t c s p (.inr (t', c')) → AtC o v lo c' → lo + c'.length ≤ 900 → Acc o v pays it m lo c.length s p → EvSeg o v pays it lo (lo + c'.length) (4 + 3 * m) := by
  intro f
  induction f with
  | zero => intro t c s p t' c' _ h; exact absurd h (by unfold SumR; exact id)
  | succ f ih =>
    intro t c s p t' c' htk h hat h900 hA
    unfold SumR at h
    rcases h with ⟨e, _, h⟩ | ⟨t1, c1, h1, h⟩
    · cases h
    · obtain ⟨o1, o2, o3, o4, o5⟩ := hO t t1 c1 htk h1
      have pre : ∀ c2 s2 p2, SumR One kd f (t1 + 1) c2 s2 p2 (.inr (t', c')) → kd t1 ≠ 0 → ∃ w, c' = c2 ++ w := fun c2 s2 p2 h hne => by
        have key : ∀ f t c s p, t ≤ k → SumR One kd f t c s p (.inr (t', c')) → ∃ w, c' = c ++ w := by
          intro f
          induction f with
          | zero => intro t c s p _ h; exact absurd h (by unfold SumR; exact id)
          | succ f ih =>
            intro t c s p htk h
            unfold SumR at h
            rcases h with ⟨e, _, h⟩ | ⟨t1, c1, h1, h⟩
            · cases h
            · obtain ⟨o1, o2, o3, o4, o5⟩ := hO t t1 c1 htk h1
              rcases h with ⟨hk1, h⟩ | ⟨hk1, h⟩ | ⟨hk1, h⟩ | ⟨hk1, h⟩ | ⟨_, _, _, _, h⟩
              · obtain ⟨w, hw⟩ := ih _ _ _ _ (by have := hk t1 (by omega); omega) h
                exact ⟨c1 ++ dd1 p ++ w, by rw [hw]; simp only [List.append_assoc]⟩
              · obtain ⟨w, hw⟩ := ih _ _ _ _ (by have := hk t1 (by omega); omega) h
                exact ⟨c1 ++ dd1 p ++ w, by rw [hw]; simp only [List.append_assoc]⟩
              · obtain ⟨w, hw⟩ := ih _ _ _ _ (by have := hk t1 (by omega); omega) h
                exact ⟨c1 ++ dd1 p ++ dd1 s ++ w, by rw [hw]; simp only [List.append_assoc]⟩
              · obtain ⟨w, hw⟩ := ih _ _ _ _ (by have := hk t1 (by omega); omega) h
                exact ⟨c1 ++ dd1 p ++ dd1 s ++ w, by rw [hw]; simp only [List.append_assoc]⟩
              · cases h
                exact ⟨c1 ++ dd1 p ++ dd1 s, by simp only [List.append_assoc]⟩
        exact key f (t1 + 1) c2 s2 p2 (by have := hk t1 hne; omega) h
      have go : ∀ w, c' = c ++ c1 ++ dd1 p ++ w → (s = -1 ∧ EvSeg o v pays it lo (lo + (c ++ c1 ++ dd1 p).length) (3 + 3 * m)) ∨ ((s = 4 ∨ s = 5) ∧ ∃ mid, lo ≤ mid ∧ mid ≤ lo + (c ++ c1 ++ dd1 p).length ∧ EvSeg o v pays it lo mid (4 + 3 * m) ∧ EvSeg o v pays it mid (lo + (c ++ c1 ++ dd1 p).length) (3 + 3 * m)) := fun w hw => by
        rw [hw] at hat h900
        have hat2 := hat.left
        have hat3 := hat2.left.right
        refine hA.prod ?_ hat2
        refine hE t t1 c1 (lo + c.length) htk h1 hat3 ?_
        simp only [List.length_append] at h900
        omega
      rcases h with ⟨hk1, h⟩ | ⟨hk1, h⟩ | ⟨hk1, h⟩ | ⟨hk1, h⟩ | ⟨_, _, _, _, h⟩
      · obtain ⟨w, hw⟩ := pre _ _ _ h (by omega)
        refine ih _ _ _ _ _ _ (by have := hk t1 (by omega); omega) h hat h900 ?_
        rcases go w hw with ⟨e, q⟩ | ⟨e, mid, b1, b2, b3, b4⟩
        · exact Or.inr (Or.inl ⟨e, Or.inl rfl, q⟩)
        · exact Or.inr (Or.inr (Or.inr ⟨e, Or.inl rfl, mid, b1, b2, b3, b4⟩))
      · obtain ⟨w, hw⟩ := pre _ _ _ h (by omega)
        refine ih _ _ _ _ _ _ (by have := hk t1 (by omega); omega) h hat h900 ?_
        rcases go w hw with ⟨e, q⟩ | ⟨e, mid, b1, b2, b3, b4⟩
        · exact Or.inr (Or.inl ⟨e, Or.inr rfl, q⟩)
        · exact Or.inr (Or.inr (Or.inr ⟨e, Or.inr rfl, mid, b1, b2, b3, b4⟩))
      · obtain ⟨w, hw⟩ := pre _ _ _ h (by omega)
        refine ih _ _ _ _ _ _ (by have := hk t1 (by omega); omega) h hat h900 ?_
        have hat2 : AtC o v lo (c ++ c1 ++ dd1 p ++ dd1 s) := by rw [hw] at hat; exact hat.left
        exact Or.inr (Or.inr (Or.inl ⟨Or.inl rfl, rfl, Acc.sum (go (dd1 s ++ w) (by rw [hw, List.append_assoc])) hat2⟩))
      · obtain ⟨w, hw⟩ := pre _ _ _ h (by omega)
        refine ih _ _ _ _ _ _ (by have := hk t1 (by omega); omega) h hat h900 ?_
        have hat2 : AtC o v lo (c ++ c1 ++ dd1 p ++ dd1 s) := by rw [hw] at hat; exact hat.left
        exact Or.inr (Or.inr (Or.inl ⟨Or.inr rfl, rfl, Acc.sum (go (dd1 s ++ w) (by rw [hw, List.append_assoc])) hat2⟩))
      · cases h
        exact Acc.sum (go (dd1 s) rfl) hat
theorem leaf_ev {kd vl : Nat → Int} {o v : Nat → Int} {pays it : Bool} {t t' lo : Nat} {c : List (Int × Int)} (hv : kd t = 2 → 0 ≤ vl t) (h : Leaf kd vl pays it t (.inr (t', c))) (hat : AtC o v lo c) : EvSeg o v pays it lo (lo + c.length) 1 := by
  rcases h with ⟨h1, h2, h⟩ | ⟨h1, h2, h⟩ | ⟨w, h1, h2, h3, h⟩ | ⟨w, h1, h2, h3, h⟩ | ⟨_, _, _, _, _, h⟩
  · cases h
    obtain ⟨e1, e2⟩ := hat.one
    exact ev_num e1 (by rw [e2]; exact ⟨hv h1, h2⟩)
  · cases h
  · cases h
  · cases h
    obtain ⟨e1, e2⟩ := hat.one
    refine ev_name e1 e2 h2 (fun hp => ?_) (fun h8 => ?_)
    · by_cases hw : w < 5
      · exact Or.inl hw
      · by_cases h8 : w = 8
        · exact Or.inr h8
        · exact absurd (Or.inl ⟨by omega, by omega, hp⟩) h3
    · cases it
      · exact absurd (Or.inr ⟨h8, rfl⟩) h3
      · rfl
  · cases h
theorem one_ev {kd vl : Nat → Int} {k : Nat} {o v : Nat → Int} (hk : ∀ t, kd t ≠ 0 → t < k) (hv : ∀ t, kd t = 2 → 0 ≤ vl t) {pays : Bool} : ∀ m it t t' c lo, t ≤ k → OneR kd vl pays m it t (.inr (t', c)) → AtC o v lo c → lo + c.length ≤ 900 → EvSeg o v pays it lo (lo + c.length) (1 + 3 * m) := by
  intro m
  induction m with
  | zero =>
    intro it t t' c lo _ h hat _
    unfold OneR at h
    rcases h with h | ⟨_, h⟩
    · exact leaf_ev (hv t) h hat
    · cases h
  | succ m ih =>
    intro it t t' c lo htk h hat h900
    unfold OneR at h
    rcases h with h | ⟨_, _, h⟩ | ⟨_, _, _, h⟩ | ⟨_, _, _, _, h⟩ | ⟨_, _, _, _, _, h⟩ | ⟨h1, hit, h2, hr, h3, r', h4, h⟩ | ⟨h1, r', h4, h⟩ | ⟨h1, r', h4, h⟩
    · exact (leaf_ev (hv t) h hat).mono (by omega)
    · cases h
    · cases h
    · cases h
    · cases h
    · obtain ⟨c', e1, e2⟩ := mapR_ok h
      subst e2
      rw [e1] at h4
      have := hk (t + 2) (by omega)
      have hat' : AtC o v lo ([(2, vl (t + 1))] ++ (c' ++ [(8, 0)])) := hat
      obtain ⟨q1, q2⟩ := hat'.left.one
      have q3 := hat'.right.left
      have q4 := hat'.right.right.one.1
      have el : ((2, vl (t + 1)) :: (c' ++ [(8, 0)])).length = c'.length + 2 := by simp
      rw [el] at h900 ⊢
      have l1 : [((2 : Int), vl (t + 1))].length = 1 := rfl
      rw [l1] at q3 q4
      have := ih true (t + 3) t' c' (lo + 1) (by omega) h4 q3 (by omega)
      obtain ⟨T, hT⟩ := Int.eq_ofNat_of_zero_le (show 0 ≤ vl (t + 1) by omega)
      rw [hit]
      have ev := ev_tot (T := T) this (by omega) (by omega) (by omega) q1 (by rw [q2]; exact hT) (by omega) q4
      rw [show lo + (c'.length + 2) = lo + 1 + c'.length + 1 by omega]
      exact ev.mono (by omega)
    · obtain ⟨c', e1, e2⟩ := mapR_ok h
      subst e2
      rw [e1] at h4
      have := hk t (by omega)
      have el : (c' ++ [((3 : Int), (0 : Int))]).length = c'.length + 1 := by simp
      rw [el] at h900 ⊢
      have ev := ev_minus (ih it (t + 1) t' c' lo (by omega) h4 hat.left (by omega)) (by omega) (by omega) hat.right.one.1
      rw [show lo + (c'.length + 1) = lo + c'.length + 1 by omega]
      exact ev.mono (by omega)
    · obtain ⟨t1, e1, e2, e3⟩ := clo_ok h
      rw [e3] at h4
      have h0 := hk t (by omega)
      have ev := sum_ev (lo := lo) (o := o) (v := v) (pays := pays) (it := it) (m := m) hk (fun t t' c hh h => one_ok hk m it t t' c hh h) (fun t t' c l hh h ha h9 => ih it t t' c l hh h ha h9) 300 (t + 1) [] (-1) (-1) t1 c (by omega) h4 hat h900 (Or.inl ⟨rfl, rfl, rfl⟩)
      exact ev.mono (by omega)
