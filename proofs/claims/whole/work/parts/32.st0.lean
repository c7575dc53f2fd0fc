def sh0 (_ _ : Nat) : Nat := 0
def g00 : Nat → Nat → Int := look zI ga0
def hasK {α : Type} (l : List (Nat × Nat × α)) (p i : Nat) : Bool := l.any fun e => Nat.beq e.1 p && Nat.beq e.2.1 i
theorem look_all (z f : Nat → Nat → Nat) : ∀ (l : List (Nat × Nat × Nat)), (l.all fun e => Nat.beq (f e.1 e.2.1) e.2.2) = true → ∀ p i, look z l p i = f p i ∨ (look z l p i = z p i ∧ hasK l p i = false)
  | [], _, _, _ => Or.inr ⟨rfl, rfl⟩
  | (a, j, x) :: l, h, p, i => by
    rw [List.all_cons, Bool.and_eq_true] at h
    have h1 : f a j = x := Nat.eq_of_beq_eq_true h.1
    have ih := look_all z f l h.2 p i
    by_cases ha : p = a
    · by_cases hj : i = j
      · subst ha; subst hj
        left
        show (if p = p then (if i = i then x else look z l p i) else look z l p i) = _
        rw [if_pos rfl, if_pos rfl, h1]
      · have e : look z ((a, j, x) :: l) p i = look z l p i := by
          show (if p = a then (if i = j then x else look z l p i) else look z l p i) = _
          rw [if_neg hj]; simp
        have e2 : hasK ((a, j, x) :: l) p i = hasK l p i := by
          show (Nat.beq a p && Nat.beq j i || hasK l p i) = _
          have : Nat.beq j i = false := by
            cases hb : Nat.beq j i
            · rfl
            · exact absurd (Nat.eq_of_beq_eq_true hb).symm hj
          rw [this]; simp
        rw [e, e2]; exact ih
    · have e : look z ((a, j, x) :: l) p i = look z l p i := by
        show (if p = a then (if i = j then x else look z l p i) else look z l p i) = _
        rw [if_neg ha]
      have e2 : hasK ((a, j, x) :: l) p i = hasK l p i := by
        show (Nat.beq a p && Nat.beq j i || hasK l p i) = _
        have : Nat.beq a p = false := by
          cases hb : Nat.beq a p
          · rfl
          · exact absurd (Nat.eq_of_beq_eq_true hb).symm ha
        rw [this]; simp
      rw [e, e2]; exact ih
def chkr (l : List (Nat × Nat × Nat)) (p : Nat) : Nat → List Nat → Bool
  | _, [] => true
  | k, x :: r => (Nat.beq x 0 || hasK l p k) && chkr l p (k + 1) r
theorem chkr_ok (l : List (Nat × Nat × Nat)) (p : Nat) : ∀ (r : List Nat) (k : Nat), chkr l p k r = true → ∀ j, hasK l p (k + j) = false → r.getD j 0 = 0
  | [], _, _, _, _ => rfl
  | x :: r, k, h, j, hj => by
    unfold chkr at h
    rw [Bool.and_eq_true] at h
    cases j with
    | zero =>
      have h1 := h.1
      rw [show k + 0 = k from rfl] at hj
      rw [hj, Bool.or_false] at h1
      exact Nat.eq_of_beq_eq_true h1
    | succ j => exact chkr_ok l p r (k + 1) h.2 j (by rw [show k + 1 + j = k + (j + 1) by omega]; exact hj)
def chkT : Nat → List (List Nat) → Bool
  | _, [] => true
  | p, r :: t => chkr ra0 p 0 r && chkT (p + 1) t
theorem chkT_ok : ∀ (t : List (List Nat)) (k : Nat), chkT k t = true → ∀ p i, hasK ra0 (k + p) i = false → (t.getD p []).getD i 0 = 0
  | [], _, _, _, _, _ => rfl
  | r :: t, k, h, p, i, hi => by
    unfold chkT at h
    rw [Bool.and_eq_true] at h
    cases p with
    | zero => exact chkr_ok ra0 k r 0 h.1 i (by rw [Nat.zero_add]; exact hi)
    | succ p => exact chkT_ok t (k + 1) h.2 p i (by rw [show k + 1 + p = k + (p + 1) by omega]; exact hi)
theorem ra0_all : (ra0.all fun e => Nat.beq (rho sh0 e.1 e.2.1) e.2.2) = true := by decide +kernel
theorem ra0_T : chkT 0 R0t = true := by decide +kernel
theorem ra0_fr : frsh ra0 149 = true := by decide +kernel
theorem rho0 : look zR ra0 = rho sh0 := by
  funext p i
  by_cases hp : p < 149
  · rcases look_all zR (rho sh0) ra0 ra0_all p i with h | ⟨h, h2⟩
    · exact h
    · rw [h, zR_lt hp]
      have h0 : (R0t.getD p []).getD i 0 = 0 := chkT_ok R0t 0 ra0_T p i (by rw [Nat.zero_add]; exact h2)
      unfold rho
      rw [h0, if_pos hp]
      unfold sh0
      simp
  · rw [look_fr zR ra0 149 ra0_fr p i (by omega)]
    unfold zR rho
    rw [if_neg hp, if_neg (show ¬ p = 51 by omega), if_neg (show ¬ p = 101 by omega), if_neg hp]
theorem toH0 : toH (T0, ra0, ga0) = St [] sh0 g00 := by
  show (T0, look zR ra0, look zI ga0) = (T0 ++ dyn [], rho sh0, g00)
  rw [rho0]
  have : dyn [] = [] := rfl
  rw [this, List.append_nil]
  rfl
/-- the class's constructor -/
theorem c_X11_init {d : Nat} {Q : V → HS → Prop} (h : Q (vI 0) (toH (T0x, rx0, gx0))) : CallM (d + 6) m_X11_init [vR 1] (toH ([(99, 0), (21, 9)], [], [])) Q := by
  obtain ⟨a, b, c, e, f, hr⟩ := isR_ok run_x
  refine call (M := m_X11_init) (nle rfl) (nle rfl) ?_
  have := ex_ok ctab_ok d 3000 5 _ _ _ _ _ _ _ _ _ _ _ _ _ _ hr Q h
  rw [show d + 5 = 5 + d by omega]
  exact this
def B_X12_init_162 : List Ins := [(162, .invokestatic 64, 3, 206, 5), (165, .return_, 1, 0, 0)]
theorem G_X12_init_162 {d k n : Nat} {ls : LV} {st : List V} {H : HS} {Q : V → HS → Prop} (h : ∀ sc, wp sc (fun pc k n ls st H => Reach d m_X12_init k n pc ls st H Q) Q (CallM d) B_X12_init_162 k n ls st H) : Reach d m_X12_init k n 162 ls st H Q := go2 (by decide +kernel) rfl h
/-- the reference's constructor -/
theorem c_X12_init {d : Nat} {Q : V → HS → Prop} (h : cV (d + 5) m_X12_copy [vR 135, vR 136] [] sh0 g00 (fun g' => Q (vI 0) (St [] sh0 g'))) : CallM (d + 6) m_X12_init [vR 134] (toH (T0x ++ [(22, 32)], rx0, gx0)) Q := by
  have hr := isS_ok run_m
  refine call (M := m_X12_init) (nle rfl) (nle rfl) ?_
  have := ex_ok ctab_ok d 3000 5 _ _ _ _ _ _ _ _ _ _ _ _ _ _ hr Q (by
    show Reach (5 + d) m_X12_init 0 0 162 [some (vR 134)] [vR 136, vR 135] (toH (T0, ra0, ga0)) Q
    rw [toH0, show 5 + d = d + 5 by omega]
    exact G_X12_init_162 (fun sc => ⟨⟨nle rfl, nle rfl⟩, ⟨nle rfl, nle rfl⟩, cV_mono h (fun r g' hq => hq)⟩))
  rw [show d + 5 = 5 + d by omega]
  exact this
