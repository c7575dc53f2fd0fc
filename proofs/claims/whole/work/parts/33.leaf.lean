-- pure contracts: the leaves
theorem r_len135 : len [] 135 = 2564 ∧ len [] 136 = 2564 := ⟨by decide +kernel, by decide +kernel⟩
theorem lenT {dd : List (Nat × Nat)} {p k n : Nat} (h : (T0 ++ dyn dd)[p]? = some (k, n)) : len dd p = n := by
  unfold len
  rw [List.getD_eq_getElem?_getD, h]
  rfl
theorem arT {dd : List (Nat × Nat)} {p n : Nat} (hp : p ≠ 0) (h : (T0 ++ dyn dd)[p]? = some (0, n)) : arI dd p := ⟨hp, by rw [lenT h]; exact h⟩
/-- a row laid over another up to k -/
def cpy (g : Nat → Nat → Int) (p q k : Nat) : Nat → Nat → Int := fun a i => if a = q ∧ i < k then g p i else g a i
theorem cpy_step {g : Nat → Nat → Int} {p q k : Nat} (h : p ≠ q) : up (cpy g p q k) q k (cpy g p q k p k) = cpy g p q (k + 1) := by
  funext a i
  unfold up cpy
  by_cases ha : a = q
  · by_cases hi : i = k
    · subst ha; subst hi; simp [h]
    · subst ha
      have : (i < k + 1) = (i < k) := by apply propext; omega
      simp [hi, this]
  · simp [ha]
theorem s_X12_copy_loop {d : Nat} {dd : List (Nat × Nat)} {sh : Nat → Nat → Nat} {g : Nat → Nat → Int} {K : (Nat → Nat → Int) → Prop} {p q : Nat} (hp : p ≠ 0) (hq : q ≠ 0) (hpq : p ≠ q) (h1 : (T0 ++ dyn dd)[p]? = some (0, 2564)) (h2 : (T0 ++ dyn dd)[q]? = some (0, 2564)) (hK : K (cpy g p q 2564)) :
    ∀ m k : Nat, k + m = 2564 → rV d m_X12_copy 2 [some (vR p), some (vR q), some (vI (k : Int))] [] dd sh (cpy g p q k) K := by
  intro m
  induction m with
  | zero =>
    intro k hk
    have e : k = 2564 := by omega
    subst e
    exact r_X12_copy_2 ⟨⟨by omega, by omega⟩, fun _ => hK, fun h => absurd h (by omega)⟩
  | succ m ih =>
    intro k hk
    refine r_X12_copy_2 ⟨⟨by omega, by omega⟩, fun h => absurd h (by omega), fun h => ⟨arT hp h1, by omega, by rw [lenT h1]; omega, arT hq h2, by rw [lenT h2]; omega, ?_⟩⟩
    have e : ((k : Int)).toNat = k := by omega
    rw [e, cpy_step hpq]
    have := ih (k + 1) (by omega)
    rw [show ((k : Int) + 1) = ((k + 1 : Nat) : Int) by omega]
    exact this
theorem s_X12_copy {d : Nat} {dd : List (Nat × Nat)} {sh : Nat → Nat → Nat} {g : Nat → Nat → Int} {K : (Nat → Nat → Int) → Prop} {p q : Nat} (hp : p ≠ 0) (hq : q ≠ 0) (hpq : p ≠ q) (h1 : (T0 ++ dyn dd)[p]? = some (0, 2564)) (h2 : (T0 ++ dyn dd)[q]? = some (0, 2564)) (hK : K (cpy g p q 2564)) :
    cV (d + 1) m_X12_copy [vR p, vR q] dd sh g K := by
  refine mkV (ls := [some (vR p), some (vR q), none]) rfl rfl rfl rfl rfl (r_X12_copy_0 ?_)
  have := s_X12_copy_loop (d := d) (sh := sh) hp hq hpq h1 h2 hK 2564 0 rfl
  have e : cpy g p q 0 = g := by
    funext a i; unfold cpy; simp
  rw [e] at this
  exact this
/-- the numbers once both are made -/
def g0 : Nat → Nat → Int := cpy g00 135 136 2564
theorem m_made {d : Nat} {Q : V → HS → Prop} (h : Q (vI 0) (St [] sh0 g0)) : CallM (d + 6) m_X12_init [vR 134] (toH (T0x ++ [(22, 32)], rx0, gx0)) Q :=
  c_X12_init (s_X12_copy (d := d + 4) (by decide) (by decide) (by decide) (T_135 []) (T_136 []) h)
