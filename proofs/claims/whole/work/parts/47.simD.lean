-- the book, seats, scenes: what is asked of them
theorem sm_add (f f' : Nat → Int) (n : Nat) : sm (fun k => f k + f' k) n = sm f n + sm f' n := by
  induction n with
  | zero => rfl
  | succ n ih => show sm (fun k => f k + f' k) n + (f n + f' n) = (sm f n + f n) + (sm f' n + f' n); rw [ih]; omega
/-- the first of the greatest, from m on: which (-1: none), how much -/
def am (f : Nat → Int) (m : Int) : Nat → Int × Int
  | 0 => (-1, m)
  | k + 1 => if (am f m k).2 < f k then ((k : Int), f k) else am f m k
theorem am_inv (f : Nat → Int) (m : Int) (k : Nat) : am f m k = (-1, m) ∨ ∃ j, j < k ∧ am f m k = ((j : Int), f j) ∧ m < f j := by
  induction k with
  | zero => exact Or.inl rfl
  | succ k ih =>
    by_cases h : (am f m k).2 < f k
    · refine Or.inr ⟨k, by omega, if_pos h, ?_⟩
      rcases ih with e | ⟨j, -, e, h2⟩
      · rw [e] at h; exact h
      · rw [e] at h; exact Int.lt_trans h2 h
    · rw [show am f m (k + 1) = am f m k from if_neg h]
      rcases ih with e | ⟨j, h1, e, h2⟩
      · exact Or.inl e
      · exact Or.inr ⟨j, by omega, e, h2⟩
/-- bits laid together -/
def fo (f : Nat → Int) : Nat → Int
  | 0 => 0
  | k + 1 => ior (fo f k) (f k)
theorem ior_zero {x : Int} (h : 0 ≤ x) (h2 : x < 1073741824) : ior x 0 = x := by
  obtain ⟨n, rfl⟩ := Int.eq_ofNat_of_zero_le h
  have := ior_nat (x := n) (y := 0) (by omega) (by omega)
  rw [Nat.or_zero] at this
  exact this
theorem fo_bound {f : Nat → Int} {n q : Nat} (hq : q ≤ 20) (h : ∀ k, k < n → 0 ≤ f k ∧ f k < 2 ^ q) : 0 ≤ fo f n ∧ fo f n < 2 ^ q := by
  have hq2 : 2 ^ q ≤ 2 ^ 20 := Nat.pow_le_pow_right (by decide) hq
  induction n with
  | zero => exact ⟨Int.le_refl _, pow2_pos q⟩
  | succ n ih =>
    obtain ⟨h1, h2⟩ := ih fun k hk => h k (by omega)
    obtain ⟨h3, h4⟩ := h n (by omega)
    show 0 ≤ ior (fo f n) (f n) ∧ ior (fo f n) (f n) < 2 ^ q
    obtain ⟨x, hx⟩ := Int.eq_ofNat_of_zero_le h1
    obtain ⟨y, hy⟩ := Int.eq_ofNat_of_zero_le h3
    rw [← two_pow_cast] at h2 h4 ⊢
    rw [hx, hy, ior_nat (by omega) (by omega)]
    have := Nat.or_lt_two_pow (x := x) (y := y) (n := q) (by omega) (by omega)
    omega
theorem fo_congr {f f' : Nat → Int} {n : Nat} (h : ∀ k, k < n → f k = f' k) : fo f n = fo f' n := by
  induction n with
  | zero => rfl
  | succ n ih => show ior (fo f n) (f n) = ior (fo f' n) (f' n); rw [ih fun k hk => h k (by omega), h n (by omega)]
-- the book
theorem s_X7_signAt {d : Nat} {dd : List (Nat × Nat)} {sh : Nat → Nat → Nat} {g : Nat → Nat → Int} {K : Int → (Nat → Nat → Int) → Prop} {i : Nat} {a : Nat → Int} (hS : RSc g a) (hi : (i : Int) < a 13) (hK : K (a (2524 + i)) g) : cI (d + 2) m_X7_signAt [vR 3, vI (i : Int)] dd sh g K := by
  have he := hS.el
  have hw := hS.wr
  have hb := hS.bk i hi
  refine mkI (ls := [some (vR 3), some (vI ((i : Int)))]) rfl rfl rfl rfl rfl (r_X7_signAt_0 ?_)
  refine s_J9_floorMod (by omega) (by omega) (Or.inl rfl) fun r h1 h2 h3 => ⟨h2, h3, ?_⟩
  rw [h1, hb.1]; exact hK
theorem s_X7_nightOfSign {d : Nat} {dd : List (Nat × Nat)} {sh : Nat → Nat → Nat} {g : Nat → Nat → Int} {K : Int → (Nat → Nat → Int) → Prop} {i : Nat} {a : Nat → Int} (hS : RSc g a) (hi : (i : Int) < a 13) (hK : K (a (2524 + i) / 64) g) : cI (d + 3) m_X7_nightOfSign [vR 3, vI (i : Int)] dd sh g K := by
  have hb := (hS.bk i hi).2
  refine mkI (ls := [some (vR 3), some (vI ((i : Int)))]) rfl rfl rfl rfl rfl (r_X7_nightOfSign_0 ?_)
  refine s_X7_signAt hS hi ⟨by omega, ?_⟩
  rw [Int.tdiv_eq_ediv_of_nonneg hb.1]; exact hK
theorem s_X7_sceneOfSign {d : Nat} {dd : List (Nat × Nat)} {sh : Nat → Nat → Nat} {g : Nat → Nat → Int} {K : Int → (Nat → Nat → Int) → Prop} {i : Nat} {a : Nat → Int} (hS : RSc g a) (hi : (i : Int) < a 13) (hK : K (a (2524 + i) / 8 % 8) g) : cI (d + 3) m_X7_sceneOfSign [vR 3, vI (i : Int)] dd sh g K := by
  have hb := (hS.bk i hi).2
  refine mkI (ls := [some (vR 3), some (vI ((i : Int)))]) rfl rfl rfl rfl rfl (r_X7_sceneOfSign_0 ?_)
  refine s_X7_signAt hS hi ⟨by omega, ?_⟩
  rw [Int.tdiv_eq_ediv_of_nonneg hb.1, Int.tmod_eq_emod_of_nonneg (by omega)]; exact ⟨by omega, hK⟩
theorem s_X7_suspectOfSign {d : Nat} {dd : List (Nat × Nat)} {sh : Nat → Nat → Nat} {g : Nat → Nat → Int} {K : Int → (Nat → Nat → Int) → Prop} {i : Nat} {a : Nat → Int} (hS : RSc g a) (hi : (i : Int) < a 13) (hK : K (a (2524 + i) % 8) g) : cI (d + 3) m_X7_suspectOfSign [vR 3, vI (i : Int)] dd sh g K := by
  have hb := (hS.bk i hi).2
  refine mkI (ls := [some (vR 3), some (vI ((i : Int)))]) rfl rfl rfl rfl rfl (r_X7_suspectOfSign_0 ?_)
  refine s_X7_signAt hS hi ⟨by omega, ?_⟩
  rw [Int.tmod_eq_emod_of_nonneg hb.1]; exact hK
theorem s_entry0 {d : Nat} {dd : List (Nat × Nat)} {sh : Nat → Nat → Nat} {g : Nat → Nat → Int} {K : Int → (Nat → Nat → Int) → Prop} {i : Nat} (hA : AB (g 135)) (hi : (i : Int) < g 135 13) (hK : K (g 135 (2524 + i) / 64) g) : cI (d + 1) m_X12_entry [vR 134, vI (i : Int), vI 0] dd sh g K := by
  have hw := hA.wr
  have hb := hA.bk i hi
  refine mkI (ls := [some (vR 134), some (vI ((i : Int))), some (vI 0)]) rfl rfl rfl rfl rfl (r_X12_entry_0 ?_)
  rw [show (2524 + (i : Int)).toNat = 2524 + i by omega, Int.tdiv_eq_ediv_of_nonneg (a := g 135 (2524 + i)) (b := 64) hb.1]
  repeat' (first
    | (refine imp_mk ?_; intro hh; first | contradiction | (exfalso; omega) | skip)
    | (exact hK)
    | refine And.intro ?_ ?_
    | omega)
theorem s_entry1 {d : Nat} {dd : List (Nat × Nat)} {sh : Nat → Nat → Nat} {g : Nat → Nat → Int} {K : Int → (Nat → Nat → Int) → Prop} {i : Nat} (hA : AB (g 135)) (hi : (i : Int) < g 135 13) (hK : K (g 135 (2524 + i) / 8 % 8) g) : cI (d + 1) m_X12_entry [vR 134, vI (i : Int), vI 1] dd sh g K := by
  have hw := hA.wr
  have hb := hA.bk i hi
  refine mkI (ls := [some (vR 134), some (vI ((i : Int))), some (vI 1)]) rfl rfl rfl rfl rfl (r_X12_entry_0 ?_)
  rw [show (2524 + (i : Int)).toNat = 2524 + i by omega, Int.tdiv_eq_ediv_of_nonneg (a := g 135 (2524 + i)) (b := 8) hb.1, Int.tmod_eq_emod_of_nonneg (a := g 135 (2524 + i) / 8) (by omega)]
  repeat' (first
    | (refine imp_mk ?_; intro hh; first | contradiction | (exfalso; omega) | skip)
    | (exact hK)
    | refine And.intro ?_ ?_
    | omega)
theorem s_entry2 {d : Nat} {dd : List (Nat × Nat)} {sh : Nat → Nat → Nat} {g : Nat → Nat → Int} {K : Int → (Nat → Nat → Int) → Prop} {i : Nat} (hA : AB (g 135)) (hi : (i : Int) < g 135 13) (hK : K (g 135 (2524 + i) % 8) g) : cI (d + 1) m_X12_entry [vR 134, vI (i : Int), vI 2] dd sh g K := by
  have hw := hA.wr
  have hb := hA.bk i hi
  refine mkI (ls := [some (vR 134), some (vI ((i : Int))), some (vI 2)]) rfl rfl rfl rfl rfl (r_X12_entry_0 ?_)
  rw [show (2524 + (i : Int)).toNat = 2524 + i by omega, Int.tmod_eq_emod_of_nonneg (a := g 135 (2524 + i)) hb.1]
  repeat' (first
    | (refine imp_mk ?_; intro hh; first | contradiction | (exfalso; omega) | skip)
    | (exact hK)
    | refine And.intro ?_ ?_
    | omega)
theorem sim_book : S_book := by
  intro dd sh g hI a1 a2 h1 h2
  have hw := hI.s.wr
  have hA := hI.s.ab
  unfold SimI
  by_cases c : 0 ≤ a1 ∧ a1 < g 135 13
  · obtain ⟨i, rfl⟩ := Int.eq_ofNat_of_zero_le c.1
    have hb := (hI.s.bk i c.2).2
    by_cases c2 : a2 = 0 ∨ a2 = 1 ∨ a2 = 2
    · rcases c2 with rfl | rfl | rfl
      · refine mkI (ls := [some (vR 1), some (vI ((i : Int))), some (vI 0), none]) rfl rfl rfl rfl rfl (r_X11_book_0 ?_)
        repeat' (first
          | (refine imp_mk ?_; intro hh; first | contradiction | (exfalso; omega) | skip)
          | (refine s_X7_nightOfSign hI.s c.2 ?_)
          | (refine mkI (ls := [some (vR 134), some (vI ((i : Int))), some (vI 0)]) rfl rfl rfl rfl rfl (r_X12_book_0 ?_))
          | (refine s_X12_isIn (by omega) (by omega) (by omega) (fun _ _ => ?_) (fun h => absurd h (by omega)))
          | (refine s_entry0 hA c.2 ?_)
          | (exact hI)
          | refine And.intro ?_ ?_
          | omega)
      · refine mkI (ls := [some (vR 1), some (vI ((i : Int))), some (vI 1), none]) rfl rfl rfl rfl rfl (r_X11_book_0 ?_)
        repeat' (first
          | (refine imp_mk ?_; intro hh; first | contradiction | (exfalso; omega) | skip)
          | (refine s_X7_sceneOfSign hI.s c.2 ?_)
          | (refine mkI (ls := [some (vR 134), some (vI ((i : Int))), some (vI 1)]) rfl rfl rfl rfl rfl (r_X12_book_0 ?_))
          | (refine s_X12_isIn (by omega) (by omega) (by omega) (fun _ _ => ?_) (fun h => absurd h (by omega)))
          | (refine s_entry1 hA c.2 ?_)
          | (exact hI)
          | refine And.intro ?_ ?_
          | omega)
      · refine mkI (ls := [some (vR 1), some (vI ((i : Int))), some (vI 2), none]) rfl rfl rfl rfl rfl (r_X11_book_0 ?_)
        repeat' (first
          | (refine imp_mk ?_; intro hh; first | contradiction | (exfalso; omega) | skip)
          | (refine s_X7_suspectOfSign hI.s c.2 ?_)
          | (refine mkI (ls := [some (vR 134), some (vI ((i : Int))), some (vI 2)]) rfl rfl rfl rfl rfl (r_X12_book_0 ?_))
          | (refine s_X12_isIn (by omega) (by omega) (by omega) (fun _ _ => ?_) (fun h => absurd h (by omega)))
          | (refine s_entry2 hA c.2 ?_)
          | (exact hI)
          | refine And.intro ?_ ?_
          | omega)
    · refine mkI (ls := [some (vR 1), some (vI ((i : Int))), some (vI a2), none]) rfl rfl rfl rfl rfl (r_X11_book_0 ?_)
      repeat' (first
        | (refine imp_mk ?_; intro hh; first | contradiction | (exfalso; omega) | skip)
        | (refine mkI (ls := [some (vR 134), some (vI ((i : Int))), some (vI a2)]) rfl rfl rfl rfl rfl (r_X12_book_0 ?_))
        | (refine s_X12_isIn (v0 := (i : Int)) (by omega) (by omega) (by omega) (fun _ _ => ?_) (fun h => absurd h (by omega)))
        | (refine s_X12_isIn (v0 := a2) (by omega) (by omega) (by omega) (fun _ _ => absurd c2 (by omega)) (fun _ => ?_))
        | (exact hI)
        | refine And.intro ?_ ?_
        | omega)
  · refine mkI (ls := [some (vR 1), some (vI a1), some (vI a2), none]) rfl rfl rfl rfl rfl (r_X11_book_0 ?_)
    repeat' (first
      | (refine imp_mk ?_; intro hh; first | contradiction | (exfalso; omega) | skip)
      | (refine mkI (ls := [some (vR 134), some (vI a1), some (vI a2)]) rfl rfl rfl rfl rfl (r_X12_book_0 ?_))
      | (refine s_X12_isIn (v0 := a1) (by omega) (by omega) (by omega) (fun _ _ => absurd c (by omega)) (fun _ => ?_))
      | (exact hI)
      | refine And.intro ?_ ?_
      | omega)
/-- whether the i-th of the book is of suspect p (-1: of all) in scene c (-1: in all) -/
def cs (a : Nat → Int) (p c : Int) (i : Nat) : Int := if (p = -1 ∨ a (2524 + i) % 8 = p) ∧ (c = -1 ∨ a (2524 + i) / 8 % 8 = c) then 1 else 0
theorem cs01 (a : Nat → Int) (p c : Int) (i : Nat) : 0 ≤ cs a p c i ∧ cs a p c i ≤ 1 := by unfold cs; split <;> omega
def sgN (a : Nat → Int) (p c : Int) : Int := sm (cs a p c) (a 13).toNat
theorem sgN_b {a : Nat → Int} (h : 0 ≤ a 13 ∧ a 13 ≤ 40) (p c : Int) : 0 ≤ sgN a p c ∧ sgN a p c ≤ 40 := by
  have := sm_bound (f := cs a p c) (n := (a 13).toNat) (B := 1) fun k _ => cs01 a p c k
  unfold sgN
  omega
theorem s_X7_countSigns {d : Nat} {dd : List (Nat × Nat)} {sh : Nat → Nat → Nat} {g : Nat → Nat → Int} {K : Int → (Nat → Nat → Int) → Prop} {v1 v2 : Int} {a : Nat → Int} (hS : RSc g a) (h1 : i32 v1) (h2 : i32 v2) (hK : K (sgN a v1 v2) g) : cI (d + 4) m_X7_countSigns [(vR 3), (vI v1), (vI v2)] dd sh g K := by
  have hw := hS.wr
  obtain ⟨n, hn⟩ := Int.eq_ofNat_of_zero_le hw.2.1
  have hn2 : (a 13).toNat = n := by omega
  unfold sgN at hK
  rw [hn2] at hK
  refine mkI (ls := [some (vR 3), some (vI v1), some (vI v2), none, none, none]) rfl rfl rfl rfl rfl (r_X7_countSigns_0 ?_)
  refine loop (P := fun k => rI (d + 3) m_X7_countSigns 5 [some (vR 3), some (vI v1), some (vI v2), some (vI (sm (cs a v1 v2) k)), some (vI ((k : Int))), none] [] dd sh g K) (n := n) ?_ ?_ 0 (by omega)
  · refine r_X7_countSigns_5 ?_
    repeat' (first
      | (refine imp_mk ?_; intro hh; first | contradiction | (exfalso; omega) | skip)
      | (exact hK)
      | refine And.intro ?_ ?_
      | omega)
  · intro k hk ih
    have ihx : rI (d + 3) m_X7_countSigns 5 [some (vR 3), some (vI v1), some (vI v2), some (vI (sm (cs a v1 v2) (k + 1))), some (vI (((k + 1 : Nat) : Int))), none] [] dd sh g K := ih
    rw [show sm (cs a v1 v2) (k + 1) = sm (cs a v1 v2) k + (cs a v1 v2) k from rfl] at ihx
    have ih1 : (cs a v1 v2) k = 1 → rI (d + 3) m_X7_countSigns 5 [some (vR 3), some (vI v1), some (vI v2), some (vI (sm (cs a v1 v2) k + 1)), some (vI (((k + 1 : Nat) : Int))), none] [] dd sh g K := fun h9 => by have h8 := ihx; rw [h9] at h8; exact h8
    have ih0 : (cs a v1 v2) k = 0 → rI (d + 3) m_X7_countSigns 5 [some (vR 3), some (vI v1), some (vI v2), some (vI (sm (cs a v1 v2) k + 0)), some (vI (((k + 1 : Nat) : Int))), none] [] dd sh g K := fun h9 => by have h8 := ihx; rw [h9] at h8; exact h8
    have ih00 : (cs a v1 v2) k = 0 → rI (d + 3) m_X7_countSigns 5 [some (vR 3), some (vI v1), some (vI v2), some (vI (sm (cs a v1 v2) k)), some (vI (((k + 1 : Nat) : Int))), none] [] dd sh g K := fun h9 => by have h8 := ihx; rw [h9, Int.add_zero] at h8; exact h8
    refine r_X7_countSigns_5 ?_
    have t1 : ((v1 = -1 ∨ a (2524 + k) % 8 = v1) ∧ (v2 = -1 ∨ a (2524 + k) / 8 % 8 = v2)) → cs a v1 v2 k = 1 := fun h => if_pos h
    have t0 : ¬ ((v1 = -1 ∨ a (2524 + k) % 8 = v1) ∧ (v2 = -1 ∨ a (2524 + k) / 8 % 8 = v2)) → cs a v1 v2 k = 0 := fun h => if_neg h
    repeat' (first
      | (refine imp_mk ?_; intro hh; first | contradiction | (exfalso; omega) | skip)
      | (refine s_X7_sceneOfSign hS (by omega) ?_)
      | (refine s_X7_suspectOfSign hS (by omega) ?_)
      | (exact ih1 (t1 (by omega)))
      | (exact ih00 (t0 (by omega)))
      | refine And.intro ?_ ?_
      | omega)
theorem s_X12_signsOf {d : Nat} {dd : List (Nat × Nat)} {sh : Nat → Nat → Nat} {g : Nat → Nat → Int} {K : Int → (Nat → Nat → Int) → Prop} {v1 v2 : Int} (hA : AB (g 135)) (h1 : i32 v1) (h2 : i32 v2) (hK : K (sgN (g 135) v1 v2) g) : cI (d + 2) m_X12_signsOf [(vR 134), (vI v1), (vI v2)] dd sh g K := by
  have hw := hA.wr
  obtain ⟨n, hn⟩ := Int.eq_ofNat_of_zero_le hw.1
  have hn2 : (g 135 13).toNat = n := by omega
  unfold sgN at hK
  rw [hn2] at hK
  refine mkI (ls := [some (vR 134), some (vI v1), some (vI v2), none, none]) rfl rfl rfl rfl rfl (r_X12_signsOf_0 ?_)
  refine loop (P := fun k => rI (d + 1) m_X12_signsOf 5 [some (vR 134), some (vI v1), some (vI v2), some (vI (sm (cs (g 135) v1 v2) k)), some (vI ((k : Int)))] [] dd sh g K) (n := n) ?_ ?_ 0 (by omega)
  · refine r_X12_signsOf_5 ?_
    repeat' (first
      | (refine imp_mk ?_; intro hh; first | contradiction | (exfalso; omega) | skip)
      | (exact hK)
      | refine And.intro ?_ ?_
      | omega)
  · intro k hk ih
    have ihx : rI (d + 1) m_X12_signsOf 5 [some (vR 134), some (vI v1), some (vI v2), some (vI (sm (cs (g 135) v1 v2) (k + 1))), some (vI (((k + 1 : Nat) : Int)))] [] dd sh g K := ih
    rw [show sm (cs (g 135) v1 v2) (k + 1) = sm (cs (g 135) v1 v2) k + (cs (g 135) v1 v2) k from rfl] at ihx
    have ih1 : (cs (g 135) v1 v2) k = 1 → rI (d + 1) m_X12_signsOf 5 [some (vR 134), some (vI v1), some (vI v2), some (vI (sm (cs (g 135) v1 v2) k + 1)), some (vI (((k + 1 : Nat) : Int)))] [] dd sh g K := fun h9 => by have h8 := ihx; rw [h9] at h8; exact h8
    have ih0 : (cs (g 135) v1 v2) k = 0 → rI (d + 1) m_X12_signsOf 5 [some (vR 134), some (vI v1), some (vI v2), some (vI (sm (cs (g 135) v1 v2) k + 0)), some (vI (((k + 1 : Nat) : Int)))] [] dd sh g K := fun h9 => by have h8 := ihx; rw [h9] at h8; exact h8
    have ih00 : (cs (g 135) v1 v2) k = 0 → rI (d + 1) m_X12_signsOf 5 [some (vR 134), some (vI v1), some (vI v2), some (vI (sm (cs (g 135) v1 v2) k)), some (vI (((k + 1 : Nat) : Int)))] [] dd sh g K := fun h9 => by have h8 := ihx; rw [h9, Int.add_zero] at h8; exact h8
    refine r_X12_signsOf_5 ?_
    have t1 : ((v1 = -1 ∨ g 135 (2524 + k) % 8 = v1) ∧ (v2 = -1 ∨ g 135 (2524 + k) / 8 % 8 = v2)) → cs (g 135) v1 v2 k = 1 := fun h => if_pos h
    have t0 : ¬ ((v1 = -1 ∨ g 135 (2524 + k) % 8 = v1) ∧ (v2 = -1 ∨ g 135 (2524 + k) / 8 % 8 = v2)) → cs (g 135) v1 v2 k = 0 := fun h => if_neg h
    repeat' (first
      | (refine imp_mk ?_; intro hh; first | contradiction | (exfalso; omega) | skip)
      | (refine s_entry1 hA (by omega) ?_)
      | (refine s_entry2 hA (by omega) ?_)
      | (exact ih1 (t1 (by omega)))
      | (exact ih0 (t0 (by omega)))
      | refine And.intro ?_ ?_
      | omega)
theorem sim_signs : S_signs := by
  intro dd sh g hI a1 a2 h1 h2
  have hw := hI.s.wr
  have hA := hI.s.ab
  have en := hA.n
  have em := hA.m
  have hb := sgN_b hw.2 a1 a2
  unfold SimI
  have hr : (a1 = -1 ∨ (0 ≤ a1 ∧ a1 < g 135 0)) → (a2 = -1 ∨ (0 ≤ a2 ∧ a2 < g 135 1)) → cI 200 m_X12_signs [vR 134, vI a1, vI a2] dd sh g (fun r' g3 => sgN (g 135) a1 a2 = r' ∧ i32 (sgN (g 135) a1 a2) ∧ Inv dd sh g3) := by
    intro c1 c2
    refine mkI (ls := [some (vR 134), some (vI a1), some (vI a2)]) rfl rfl rfl rfl rfl (r_X12_signs_0 ?_)
    repeat' (first
      | (refine imp_mk ?_; intro hh; first | contradiction | (exfalso; omega) | skip)
      | (refine s_X12_isSuspect en h1 (fun _ _ => ?_) (fun h => absurd c1 (by omega)))
      | (refine s_X12_isScene em h2 (fun _ _ => ?_) (fun h => absurd c2 (by omega)))
      | (refine s_X12_signsOf hA h1 h2 ?_)
      | (exact hI)
      | refine And.intro ?_ ?_
      | omega)
  have hr2 : ¬ ((a1 = -1 ∨ (0 ≤ a1 ∧ a1 < g 135 0)) ∧ (a2 = -1 ∨ (0 ≤ a2 ∧ a2 < g 135 1))) → cI 200 m_X12_signs [vR 134, vI a1, vI a2] dd sh g (fun r' g3 => -2 = r' ∧ i32 (-2) ∧ Inv dd sh g3) := by
    intro c
    refine mkI (ls := [some (vR 134), some (vI a1), some (vI a2)]) rfl rfl rfl rfl rfl (r_X12_signs_0 ?_)
    repeat' (first
      | (refine imp_mk ?_; intro hh; first | contradiction | (exfalso; omega) | skip)
      | (refine s_X12_isSuspect en h1 (fun _ _ => ?_) (fun _ => ?_))
      | (refine s_X12_isScene em h2 (fun _ _ => ?_) (fun _ => ?_))
      | (exact absurd c (by omega))
      | (exact hI)
      | refine And.intro ?_ ?_
      | omega)
  refine mkI (ls := [some (vR 1), some (vI a1), some (vI a2), none]) rfl rfl rfl rfl rfl (r_X11_signs_0 ?_)
  repeat' (first
    | (refine imp_mk ?_; intro hh; first | contradiction | (exfalso; omega) | skip)
    | (refine s_X7_hasSuspect hI.s h1 (fun _ _ => ?_) (fun _ => ?_))
    | (refine s_X7_hasScene hI.s h2 (fun _ _ => ?_) (fun _ => ?_))
    | (refine s_X7_countSigns hI.s h1 h2 ?_)
    | (exact hr (by omega) (by omega))
    | (exact hr2 (by omega))
    | refine And.intro ?_ ?_
    | omega)
def cyF (a : Nat → Int) (p : Nat) : Int := sgN a (p : Int) (-1)
theorem s_X7_mostWritten {d : Nat} {dd : List (Nat × Nat)} {sh : Nat → Nat → Nat} {g : Nat → Nat → Int} {K : Int → (Nat → Nat → Int) → Prop} {a : Nat → Int} {n : Nat} (hS : RSc g a) (hn : a 0 = n) (hK : K (am (cyF a) 0 n).1 g) : cI (d + 5) m_X7_mostWritten [(vR 3)] dd sh g K := by
  have en := hS.n
  have hw := hS.wr
  refine mkI (ls := [some (vR 3), none, none, none, none]) rfl rfl rfl rfl rfl (r_X7_mostWritten_0 ?_)
  refine loop (P := fun k => rI (d + 4) m_X7_mostWritten 6 [some (vR 3), some (vI ((am (cyF a) 0 k).1)), some (vI ((am (cyF a) 0 k).2)), some (vI ((k : Int))), none] [] dd sh g K) (n := n) ?_ ?_ 0 (by omega)
  · refine r_X7_mostWritten_6 ?_
    repeat' (first
      | (refine imp_mk ?_; intro hh; first | contradiction | (exfalso; omega) | skip)
      | (exact hK)
      | refine And.intro ?_ ?_
      | omega)
  · intro k hk ih
    have ihx : rI (d + 4) m_X7_mostWritten 6 [some (vR 3), some (vI ((am (cyF a) 0 (k + 1)).1)), some (vI ((am (cyF a) 0 (k + 1)).2)), some (vI (((k + 1 : Nat) : Int))), none] [] dd sh g K := ih
    have ihA : (am (cyF a) 0 k).2 < (cyF a) k → rI (d + 4) m_X7_mostWritten 6 [some (vR 3), some (vI ((k : Int))), some (vI ((cyF a) k)), some (vI (((k + 1 : Nat) : Int))), none] [] dd sh g K := fun h9 => by have h8 := ihx; rw [show am (cyF a) 0 (k + 1) = ((k : Int), (cyF a) k) from if_pos h9] at h8; exact h8
    have ihB : ¬ (am (cyF a) 0 k).2 < (cyF a) k → rI (d + 4) m_X7_mostWritten 6 [some (vR 3), some (vI ((am (cyF a) 0 k).1)), some (vI ((am (cyF a) 0 k).2)), some (vI (((k + 1 : Nat) : Int))), none] [] dd sh g K := fun h9 => by have h8 := ihx; rw [show am (cyF a) 0 (k + 1) = am (cyF a) 0 k from if_neg h9] at h8; exact h8
    have hb := sgN_b hw.2 k (-1)
    have ec : cyF a k = sgN a k (-1) := rfl
    have hm : i32 (am (cyF a) 0 k).2 := by
      rcases am_inv (cyF a) 0 k with e | ⟨j, -, e, -⟩
      · rw [e]; exact ⟨by decide, by decide⟩
      · rw [e]; have := sgN_b hw.2 j (-1); exact ⟨by show _ ≤ sgN a j (-1); omega, by show sgN a j (-1) ≤ _; omega⟩
    refine r_X7_mostWritten_6 ?_
    repeat' (first
      | (refine imp_mk ?_; intro hh; first | contradiction | (exfalso; omega) | skip)
      | (refine s_X7_countSigns hS (by omega) (by omega) ?_)
      | (exact hm)
      | (exact ihA (by omega))
      | (exact ihB (by omega))
      | refine And.intro ?_ ?_
      | omega)
theorem s_X12_crying {d : Nat} {dd : List (Nat × Nat)} {sh : Nat → Nat → Nat} {g : Nat → Nat → Int} {K : Int → (Nat → Nat → Int) → Prop} {n : Nat} (hA : AB (g 135)) (hn : g 135 0 = n) (hK : K (am (cyF (g 135)) 0 n).1 g) : cI (d + 3) m_X12_crying [(vR 134)] dd sh g K := by
  have en := hA.n
  have hw := hA.wr
  refine mkI (ls := [some (vR 134), none, none, none]) rfl rfl rfl rfl rfl (r_X12_crying_0 ?_)
  refine loop (P := fun k => rI (d + 2) m_X12_crying 6 [some (vR 134), some (vI ((am (cyF (g 135)) 0 k).1)), some (vI ((am (cyF (g 135)) 0 k).2)), some (vI ((k : Int)))] [] dd sh g K) (n := n) ?_ ?_ 0 (by omega)
  · refine r_X12_crying_6 ?_
    repeat' (first
      | (refine imp_mk ?_; intro hh; first | contradiction | (exfalso; omega) | skip)
      | (exact hK)
      | refine And.intro ?_ ?_
      | omega)
  · intro k hk ih
    have ihx : rI (d + 2) m_X12_crying 6 [some (vR 134), some (vI ((am (cyF (g 135)) 0 (k + 1)).1)), some (vI ((am (cyF (g 135)) 0 (k + 1)).2)), some (vI (((k + 1 : Nat) : Int)))] [] dd sh g K := ih
    have ihA : (am (cyF (g 135)) 0 k).2 < (cyF (g 135)) k → rI (d + 2) m_X12_crying 6 [some (vR 134), some (vI ((k : Int))), some (vI ((cyF (g 135)) k)), some (vI (((k + 1 : Nat) : Int)))] [] dd sh g K := fun h9 => by have h8 := ihx; rw [show am (cyF (g 135)) 0 (k + 1) = ((k : Int), (cyF (g 135)) k) from if_pos h9] at h8; exact h8
    have ihB : ¬ (am (cyF (g 135)) 0 k).2 < (cyF (g 135)) k → rI (d + 2) m_X12_crying 6 [some (vR 134), some (vI ((am (cyF (g 135)) 0 k).1)), some (vI ((am (cyF (g 135)) 0 k).2)), some (vI (((k + 1 : Nat) : Int)))] [] dd sh g K := fun h9 => by have h8 := ihx; rw [show am (cyF (g 135)) 0 (k + 1) = am (cyF (g 135)) 0 k from if_neg h9] at h8; exact h8
    have hb := sgN_b hw k (-1)
    have ec : cyF (g 135) k = sgN (g 135) k (-1) := rfl
    have hm : i32 (am (cyF (g 135)) 0 k).2 := by
      rcases am_inv (cyF (g 135)) 0 k with e | ⟨j, -, e, -⟩
      · rw [e]; exact ⟨by decide, by decide⟩
      · rw [e]; have := sgN_b hw j (-1); exact ⟨by show _ ≤ sgN (g 135) j (-1); omega, by show sgN (g 135) j (-1) ≤ _; omega⟩
    refine r_X12_crying_6 ?_
    repeat' (first
      | (refine imp_mk ?_; intro hh; first | contradiction | (exfalso; omega) | skip)
      | (refine s_X12_signsOf hA (by omega) (by omega) ?_)
      | (exact hm)
      | (exact ihA (by omega))
      | (exact ihB (by omega))
      | refine And.intro ?_ ?_
      | omega)
theorem am_i32 (f : Nat → Int) (m : Int) {n : Nat} (hn : n < 1000) : i32 (am f m n).1 := by
  rcases am_inv f m n with e | ⟨j, hj, e, -⟩
  · rw [e]; exact ⟨by show (-2147483648 : Int) ≤ -1; decide, by show (-1 : Int) ≤ 2147483647; decide⟩
  · rw [e]; exact ⟨by show _ ≤ (j : Int); omega, by show (j : Int) ≤ _; omega⟩
theorem sim_crying : S_crying := by
  intro dd sh g hI
  have hA := hI.s.ab
  have en := hA.n
  obtain ⟨n, hn⟩ := Int.eq_ofNat_of_zero_le en.1
  unfold SimI
  refine mkI (ls := [some (vR 1)]) rfl rfl rfl rfl rfl (r_X11_crying_0 ?_)
  refine s_X7_mostWritten hI.s hn ?_
  refine s_X12_crying hA hn ?_
  exact ⟨rfl, am_i32 _ _ (by omega), hI⟩
def fsF (a : Nat → Int) (i : Nat) : Int := 1 - a (16 + 7 * (a (2524 + i) % 8).toNat)
theorem s_X7_countFalse {d : Nat} {dd : List (Nat × Nat)} {sh : Nat → Nat → Nat} {g : Nat → Nat → Int} {K : Int → (Nat → Nat → Int) → Prop} {a : Nat → Int} {n : Nat} (hS : RSc g a) (hn : a 13 = n) (hK : K (sm (fsF a) n) g) : cI (d + 4) m_X7_countFalse [(vR 3)] dd sh g K := by
  have hw := hS.wr
  have en := hS.n
  refine mkI (ls := [some (vR 3), none, none]) rfl rfl rfl rfl rfl (r_X7_countFalse_0 ?_)
  refine loop (P := fun k => rI (d + 3) m_X7_countFalse 4 [some (vR 3), some (vI (sm (fsF a) k)), some (vI ((k : Int)))] [] dd sh g K) (n := n) ?_ ?_ 0 (by omega)
  · refine r_X7_countFalse_4 ?_
    repeat' (first
      | (refine imp_mk ?_; intro hh; first | contradiction | (exfalso; omega) | skip)
      | (exact hK)
      | refine And.intro ?_ ?_
      | omega)
  · intro k hk ih
    have ihx : rI (d + 3) m_X7_countFalse 4 [some (vR 3), some (vI (sm (fsF a) (k + 1))), some (vI (((k + 1 : Nat) : Int)))] [] dd sh g K := ih
    rw [show sm (fsF a) (k + 1) = sm (fsF a) k + (fsF a) k from rfl] at ihx
    have ih1 : (fsF a) k = 1 → rI (d + 3) m_X7_countFalse 4 [some (vR 3), some (vI (sm (fsF a) k + 1)), some (vI (((k + 1 : Nat) : Int)))] [] dd sh g K := fun h9 => by have h8 := ihx; rw [h9] at h8; exact h8
    have ih0 : (fsF a) k = 0 → rI (d + 3) m_X7_countFalse 4 [some (vR 3), some (vI (sm (fsF a) k + 0)), some (vI (((k + 1 : Nat) : Int)))] [] dd sh g K := fun h9 => by have h8 := ihx; rw [h9] at h8; exact h8
    have ih00 : (fsF a) k = 0 → rI (d + 3) m_X7_countFalse 4 [some (vR 3), some (vI (sm (fsF a) k)), some (vI (((k + 1 : Nat) : Int)))] [] dd sh g K := fun h9 => by have h8 := ihx; rw [h9, Int.add_zero] at h8; exact h8
    have hb := (hS.bk k (by omega)).2
    obtain ⟨p, hp⟩ := Int.eq_ofNat_of_zero_le (show 0 ≤ a (2524 + k) % 8 by omega)
    have ef : fsF a k = 1 - a (16 + 7 * p) := by unfold fsF; rw [hp]; rfl
    refine r_X7_countFalse_4 ?_
    repeat' (first
      | (refine imp_mk ?_; intro hh; first | contradiction | (exfalso; omega) | skip)
      | (refine s_X7_suspectOfSign hS (by omega) ?_)
      | ((rw [hp]; refine s_X7_isGuilty hS (by omega) (by omega) (fun r _ _ _ => ?_)))
      | (exact ih1 (by omega))
      | (exact ih00 (by omega))
      | refine And.intro ?_ ?_
      | omega)
theorem s_X12_falseSigns {d : Nat} {dd : List (Nat × Nat)} {sh : Nat → Nat → Nat} {g : Nat → Nat → Int} {K : Int → (Nat → Nat → Int) → Prop} {n : Nat} (hA : AB (g 135)) (hn : g 135 13 = n) (hK : K (sm (fsF (g 135)) n) g) : cI (d + 2) m_X12_falseSigns [(vR 134)] dd sh g K := by
  have hw := hA.wr
  have en := hA.n
  refine mkI (ls := [some (vR 134), none, none]) rfl rfl rfl rfl rfl (r_X12_falseSigns_0 ?_)
  refine loop (P := fun k => rI (d + 1) m_X12_falseSigns 4 [some (vR 134), some (vI (sm (fsF (g 135)) k)), some (vI ((k : Int)))] [] dd sh g K) (n := n) ?_ ?_ 0 (by omega)
  · refine r_X12_falseSigns_4 ?_
    repeat' (first
      | (refine imp_mk ?_; intro hh; first | contradiction | (exfalso; omega) | skip)
      | (exact hK)
      | refine And.intro ?_ ?_
      | omega)
  · intro k hk ih
    have hb := hA.bk k (by omega)
    obtain ⟨p, hp⟩ := Int.eq_ofNat_of_zero_le (show 0 ≤ g 135 (2524 + k) % 8 by omega)
    have ef : fsF (g 135) k = 1 - g 135 (16 + 7 * p) := by unfold fsF; rw [hp]; rfl
    have ihx : rI (d + 1) m_X12_falseSigns 4 [some (vR 134), some (vI (sm (fsF (g 135)) (k + 1))), some (vI (((k + 1 : Nat) : Int)))] [] dd sh g K := ih
    rw [show sm (fsF (g 135)) (k + 1) = sm (fsF (g 135)) k + fsF (g 135) k from rfl, ef] at ihx
    refine r_X12_falseSigns_4 ?_
    repeat' (first
      | (refine imp_mk ?_; intro hh; first | contradiction | (exfalso; omega) | skip)
      | (refine s_entry2 hA (by omega) ?_)
      | ((rw [hp]; refine s_get0 (by omega) ?_))
      | (exact ihx)
      | refine And.intro ?_ ?_
      | omega)
theorem sim_falseSigns : S_falseSigns := by
  intro dd sh g hI
  have hA := hI.s.ab
  have hw := hA.wr
  obtain ⟨n, hn⟩ := Int.eq_ofNat_of_zero_le hw.1
  unfold SimI
  refine mkI (ls := [some (vR 1)]) rfl rfl rfl rfl rfl (r_X11_falseSigns_0 ?_)
  refine s_X7_countFalse hI.s hn ?_
  refine s_X12_falseSigns hA hn ?_
  have hb := sm_bound (f := fsF (g 135)) (n := n) (B := 1) fun k hk => by
    have hb := hA.bk k (by omega)
    have en := hA.n
    have := (hA.pp (g 135 (2524 + k) % 8).toNat (by omega) (by omega)).1
    unfold fsF
    omega
  exact ⟨rfl, ⟨by omega, by omega⟩, hI⟩
