-- who sat where, by torn programmes
set_option maxRecDepth 100000 in
theorem and64 : ∀ x : Nat, x < 64 → ∀ y : Nat, y < 64 → (0 ≤ iand (x : Int) (y : Int) ∧ iand (x : Int) (y : Int) < 64) ∧ ∀ p : Nat, p < 6 → bt (iand (x : Int) (y : Int)) p = if bt (x : Int) p = 1 then bt (y : Int) p else 0 := by decide +kernel
set_option maxRecDepth 100000 in
theorem clr64 : ∀ x : Nat, x < 64 → ∀ c : Nat, c < 6 → (0 ≤ iand (x : Int) (ixor ((1 : Int) * 2 ^ c) (-1)) ∧ iand (x : Int) (ixor ((1 : Int) * 2 ^ c) (-1)) < 64) ∧ ∀ p : Nat, p < 6 → bt (iand (x : Int) (ixor ((1 : Int) * 2 ^ c) (-1))) p = if p = c then 0 else bt (x : Int) p := by decide +kernel
set_option maxRecDepth 100000 in
theorem ext64 : ∀ x : Nat, x < 64 → ∀ y : Nat, y < 64 → (∀ p : Nat, p < 6 → bt (x : Int) p = bt (y : Int) p) → x = y := by decide +kernel
theorem all_m : ∀ m : Nat, m < 6 → sm (bt (((2 ^ m : Nat) : Int) - 1)) 7 = (m : Int) ∧ ((2 ^ m : Nat) : Int) - 1 < 32 := by decide +kernel
def ftF (a tr : Nat → Int) : Nat → Int
  | 0 => 1
  | k + 1 => if ftF a tr k = 0 then 0 else if ((tr (a (126 + 3 * k)).toNat).tdiv 10 = a (127 + 3 * k)) ↔ a (128 + 3 * k) = 1 then 1 else 0
theorem ftF_b (a tr : Nat → Int) (k : Nat) : ftF a tr k = 0 ∨ ftF a tr k = 1 := by
  cases k with
  | zero => exact Or.inr rfl
  | succ k => unfold ftF; split <;> (try split) <;> omega
theorem ftF_zero {a tr : Nat → Int} {k : Nat} (h : ftF a tr k = 0) : ∀ n, k ≤ n → ftF a tr n = 0 := by
  intro n hn
  induction hn with
  | refl => exact h
  | step _ ih => unfold ftF; rw [if_pos ih]
theorem ftF_congr {a tr tr' : Nat → Int} {m n : Nat} (hm : ∀ k, k < n → 0 ≤ a (126 + 3 * k) ∧ a (126 + 3 * k) < m) (h : ∀ p, p < m → tr p = tr' p) : ftF a tr n = ftF a tr' n := by
  induction n with
  | zero => rfl
  | succ n ih =>
    have := hm n (by omega)
    unfold ftF
    rw [ih fun k hk => hm k (by omega), h _ (by omega)]
def clT (set : Int) (tr kp : Nat → Int) : Nat → Int
  | 0 => set
  | p + 1 => if kp p = tr p then clT set tr kp p else iand (clT set tr kp p) (ixor ((1 : Int) * 2 ^ p) (-1))
def saT (tr kp : Nat → Int) : Nat → Int
  | 0 => 0
  | p + 1 => if tr p = kp p then ior (saT tr kp p) ((1 : Int) * 2 ^ p) else saT tr kp p
theorem clT_b {set : Int} {tr kp : Nat → Int} (h : 0 ≤ set ∧ set < 64) : ∀ n, n ≤ 6 → (0 ≤ clT set tr kp n ∧ clT set tr kp n < 64) ∧ ∀ p : Nat, p < 6 → bt (clT set tr kp n) p = if p < n ∧ kp p ≠ tr p then 0 else bt set p := by
  intro n
  induction n with
  | zero => intro _; exact ⟨h, fun p hp => by rw [if_neg (fun x => by omega)]; rfl⟩
  | succ n ih =>
    intro hn
    obtain ⟨⟨i1, i2⟩, i3⟩ := ih (by omega)
    unfold clT
    by_cases e : kp n = tr n
    · rw [if_pos e]
      refine ⟨⟨i1, i2⟩, fun p hp => ?_⟩
      rw [i3 p hp]
      by_cases hpn : p = n
      · subst hpn; rw [if_neg (fun x => x.2 e), if_neg (fun x => x.2 e)]
      · by_cases h2 : p < n ∧ kp p ≠ tr p
        · rw [if_pos h2, if_pos ⟨by omega, h2.2⟩]
        · rw [if_neg h2, if_neg (fun x => h2 ⟨by omega, x.2⟩)]
    · rw [if_neg e]
      obtain ⟨x, hx⟩ := Int.eq_ofNat_of_zero_le i1
      rw [hx] at i2 i3 ⊢
      have := clr64 x (by omega) n (by omega)
      refine ⟨this.1, fun p hp => ?_⟩
      rw [this.2 p hp, i3 p hp]
      by_cases hpn : p = n
      · subst hpn; rw [if_pos rfl, if_pos ⟨by omega, e⟩]
      · rw [if_neg hpn]
        by_cases h2 : p < n ∧ kp p ≠ tr p
        · rw [if_pos h2, if_pos ⟨by omega, h2.2⟩]
        · rw [if_neg h2, if_neg (fun x => h2 ⟨by omega, x.2⟩)]
theorem saT_b {tr kp : Nat → Int} : ∀ n, n ≤ 6 → (0 ≤ saT tr kp n ∧ saT tr kp n < 64) ∧ ∀ p : Nat, p < 6 → bt (saT tr kp n) p = if p < n ∧ tr p = kp p then 1 else 0 := by
  intro n
  induction n with
  | zero =>
    intro _
    refine ⟨⟨Int.le_refl _, show (0 : Int) < 64 by decide⟩, fun p hp => ?_⟩
    rw [if_neg (fun x => by omega)]
    exact bt_zero (x := 0) (q := 0) (by decide) (by decide) (Nat.zero_le _)
  | succ n ih =>
    intro hn
    obtain ⟨⟨i1, i2⟩, i3⟩ := ih (by omega)
    unfold saT
    by_cases e : tr n = kp n
    · rw [if_pos e]
      obtain ⟨o1, o2, o3, o4⟩ := ior_bt (n := n) i1 (by omega) (by omega)
      refine ⟨⟨o1, o3 i2 (by omega)⟩, fun p hp => ?_⟩
      rw [o4 p (by omega), i3 p hp]
      by_cases hpn : p = n
      · subst hpn; rw [if_pos rfl, if_pos ⟨by omega, e⟩]
      · rw [if_neg hpn]
        by_cases h2 : p < n ∧ tr p = kp p
        · rw [if_pos h2, if_pos ⟨by omega, h2.2⟩]
        · rw [if_neg h2, if_neg (fun x => h2 ⟨by omega, x.2⟩)]
    · rw [if_neg e]
      refine ⟨⟨i1, i2⟩, fun p hp => ?_⟩
      rw [i3 p hp]
      by_cases hpn : p = n
      · subst hpn; rw [if_neg (fun x => e x.2), if_neg (fun x => e x.2)]
      · by_cases h2 : p < n ∧ tr p = kp p
        · rw [if_pos h2, if_pos ⟨by omega, h2.2⟩]
        · rw [if_neg h2, if_neg (fun x => h2 ⟨by omega, x.2⟩)]
theorem cl_sa {set : Int} {tr kp : Nat → Int} {n : Nat} (hn : n ≤ 5) (h : 0 ≤ set ∧ set < 2 ^ n) : iand set (saT tr kp n) = clT set tr kp n := by
  have hp2 : (2 : Int) ^ n ≤ 2 ^ 5 := pow2_le hn
  have c := clT_b (set := set) (tr := tr) (kp := kp) ⟨h.1, by omega⟩ n (by omega)
  have s := saT_b (tr := tr) (kp := kp) n (by omega)
  have hz : ∀ p, n ≤ p → bt set p = 0 := fun p hp => bt_zero h.1 h.2 hp
  obtain ⟨x, rfl⟩ := Int.eq_ofNat_of_zero_le h.1
  obtain ⟨y, hy⟩ := Int.eq_ofNat_of_zero_le s.1.1
  obtain ⟨z, hzz⟩ := Int.eq_ofNat_of_zero_le c.1.1
  rw [hy] at s ⊢
  have a := and64 x (by omega) y (by omega)
  obtain ⟨w, hw⟩ := Int.eq_ofNat_of_zero_le a.1.1
  rw [hzz] at c ⊢
  rw [hw] at a ⊢
  have : w = z := ext64 w (by omega) z (by omega) fun p hp => by
    rw [a.2 p hp, s.2 p hp, c.2 p hp]
    have hb := bt01 (x : Int) p
    by_cases h1 : p < n
    · by_cases h2 : tr p = kp p
      · rw [if_pos (show p < n ∧ tr p = kp p from ⟨h1, h2⟩), if_neg (show ¬ (p < n ∧ kp p ≠ tr p) from fun x => x.2 h2.symm)]
        split <;> omega
      · rw [if_neg (show ¬ (p < n ∧ tr p = kp p) from fun x => h2 x.2), if_pos (show p < n ∧ kp p ≠ tr p from ⟨h1, fun e => h2 e.symm⟩)]
        split <;> rfl
    · rw [hz p (by omega), if_neg (show ¬ ((0 : Int) = 1) by decide), if_neg (show ¬ (p < n ∧ kp p ≠ tr p) from fun x => h1 x.1)]
  rw [this]
/-- the seats by a row, one turn, all turns -/
def tsF (a : Nat → Int) (l : List Nat) (p : Nat) : Int := a (18 + 7 * (l.getD p 0))
def stT (a : Nat → Int) (n m7 : Nat) (z : Int × Int × List Nat) (l : List Nat) : Int × Int × List Nat := if ftF a (tsF a l) m7 = 0 then z else (z.1 + 1, (if z.1 = 0 then z.2.1 else clT z.2.1 (tsF a l) (tsF a z.2.2) n), l)
def orT (a : Nat → Int) (n m7 : Nat) : Int × Int × List Nat := rows (stT a n m7) n 120 (List.range n) (0, ((2 ^ n : Nat) : Int) - 1, [])
theorem clT_congr {set : Int} {tr kp tr' kp' : Nat → Int} {n : Nat} (h1 : ∀ p, p < n → tr p = tr' p) (h2 : ∀ p, p < n → kp p = kp' p) : clT set tr kp n = clT set tr' kp' n := by
  induction n with
  | zero => rfl
  | succ n ih =>
    unfold clT
    rw [ih (fun p hp => h1 p (by omega)) (fun p hp => h2 p (by omega)), h1 n (by omega), h2 n (by omega)]
theorem clT_le {set : Int} {tr kp : Nat → Int} {n q : Nat} (hq : q ≤ 5) (hn : n ≤ 5) (h : 0 ≤ set ∧ set < 2 ^ q) : 0 ≤ clT set tr kp n ∧ clT set tr kp n < 2 ^ q := by
  induction n with
  | zero => exact h
  | succ n ih =>
    have i := ih (by omega)
    have hp2 : (2 : Int) ^ q ≤ 2 ^ 5 := pow2_le hq
    unfold clT
    split
    · exact i
    · obtain ⟨x, hx⟩ := Int.eq_ofNat_of_zero_le i.1
      rw [hx] at i ⊢
      rw [clr_dec x (by omega) n (by omega)]
      split
      · next e =>
        have := clr_le x (by omega) n (by omega) e
        omega
      · exact i
theorem stT_b {a : Nat → Int} {n m7 : Nat} {z : Int × Int × List Nat} {l : List Nat} {B : Int} (hn : n ≤ 5) (h : 0 ≤ z.1 ∧ z.1 ≤ B) (h2 : 0 ≤ z.2.1 ∧ z.2.1 < 2 ^ n) : (0 ≤ (stT a n m7 z l).1 ∧ (stT a n m7 z l).1 ≤ B + 1) ∧ 0 ≤ (stT a n m7 z l).2.1 ∧ (stT a n m7 z l).2.1 < 2 ^ n := by
  unfold stT
  split
  · exact ⟨⟨h.1, by omega⟩, h2⟩
  · refine ⟨⟨?_, ?_⟩, ?_⟩
    · show 0 ≤ z.1 + 1; omega
    · show z.1 + 1 ≤ B + 1; omega
    · show 0 ≤ (if z.1 = 0 then z.2.1 else clT z.2.1 (tsF a l) (tsF a z.2.2) n) ∧ (if z.1 = 0 then z.2.1 else clT z.2.1 (tsF a l) (tsF a z.2.2) n) < 2 ^ n
      split
      · exact h2
      · exact clT_le hn hn h2
theorem s_X10_fitsTorn {d : Nat} {dd : List (Nat × Nat)} {sh : Nat → Nat → Nat} {g : Nat → Nat → Int} {K : Int → (Nat → Nat → Int) → Prop} {g0 : Nat → Nat → Int} {n m7 : Nat} (hN : RNc g (g0 135)) (h0 : g0 135 0 = (n : Int)) (hn : n ≤ 5) (h7 : g0 135 7 = (m7 : Int)) (hb : ∀ p, p < n → 0 ≤ g 132 p ∧ g 132 p ≤ 39) (hK : K (ftF (g0 135) (g 132) m7) g) : cI (d + 2) m_X10_fitsTorn [(vR 128)] dd sh g K := by
  have s2 := hN.s2
  refine mkI (ls := [some (vR 128), none, none, none]) rfl rfl rfl rfl rfl (r_X10_fitsTorn_0 ?_)
  refine loop (P := fun k => ftF (g0 135) (g 132) k = 1 → rI (d + 1) m_X10_fitsTorn 2 [some (vR 128), some (vI ((k : Int))), none, none] [] dd sh g K) (n := m7) ?_ ?_ 0 (by omega) rfl
  · intro h1
    rw [h1] at hK
    exact r_X10_fitsTorn_2 ⟨⟨by omega, by omega⟩, ⟨by omega, by omega⟩, fun _ => hK, fun h => absurd h (by omega)⟩
  · intro k hk ih h1
    have l2 := hN.l2 k (by omega)
    obtain ⟨p, hp⟩ := Int.eq_ofNat_of_zero_le l2.2.1.1
    have hbp := hb p (by omega)
    have hst : ftF (g0 135) (g 132) (k + 1) = if ((g 132 p).tdiv 10 = g0 135 (127 + 3 * k)) ↔ g0 135 (128 + 3 * k) = 1 then 1 else 0 := by
      show (if ftF (g0 135) (g 132) k = 0 then 0 else if ((g 132 (g0 135 (126 + 3 * k)).toNat).tdiv 10 = g0 135 (127 + 3 * k)) ↔ g0 135 (128 + 3 * k) = 1 then 1 else 0) = _
      rw [if_neg (by omega), hp]; rfl
    have no : ¬ (((g 132 p).tdiv 10 = g0 135 (127 + 3 * k)) ↔ g0 135 (128 + 3 * k) = 1) → K 0 g := fun h => by
      rw [if_neg h] at hst
      rw [ftF_zero hst m7 hk] at hK; exact hK
    have yes : (((g 132 p).tdiv 10 = g0 135 (127 + 3 * k)) ↔ g0 135 (128 + 3 * k) = 1) → rI (d + 1) m_X10_fitsTorn 2 [some (vR 128), some (vI (((k + 1 : Nat) : Int))), none, none] [] dd sh g K := fun h => by
      rw [if_pos h] at hst
      exact ih hst
    have htd : 0 ≤ (g 132 p).tdiv 10 ∧ (g 132 p).tdiv 10 ≤ 3 := by
      rw [Int.tdiv_eq_ediv_of_nonneg hbp.1]; omega
    refine r_X10_fitsTorn_2 ⟨⟨by omega, by omega⟩, ⟨by omega, by omega⟩, fun h => absurd h (by omega), fun _ => ?_⟩
    rw [hp] at l2
    refine s_one2 (by omega) l2.1 (by omega) (by omega) (by omega) ⟨⟨by omega, by omega⟩, fun h => absurd h (by omega), fun _ => ⟨by omega, by omega, ?_⟩⟩
    rw [show ((p : Int)).toNat = p from rfl]
    refine ⟨⟨by omega, by omega⟩, s_other2 (by omega) l2.1 (by omega) (by omega) (by omega) ⟨⟨by omega, by omega⟩, ⟨by omega, by omega⟩, fun h => ?_, fun h => ?_⟩⟩
    · exact s_what2 (by omega) l2.1 (by omega) (by omega) (by omega) ⟨⟨by omega, by omega⟩, fun h2 => yes ⟨fun x => absurd x h, fun x => absurd x h2⟩, fun h2 => no fun x => h (x.mpr h2)⟩
    · exact s_what2 (by omega) l2.1 (by omega) (by omega) (by omega) ⟨⟨by omega, by omega⟩, fun h2 => no fun x => h2 (x.mp h), fun h2 => yes ⟨fun _ => h2, fun _ => h⟩⟩
theorem s_X12_isAsTorn {d : Nat} {dd : List (Nat × Nat)} {sh : Nat → Nat → Nat} {g : Nat → Nat → Int} {K : Int → (Nat → Nat → Int) → Prop} {g0 : Nat → Nat → Int} {n m7 : Nat} (hN : RNc g0 (g0 135)) (e135 : g 135 = g0 135) (h0 : g0 135 0 = (n : Int)) (hn : n ≤ 5) (h7 : g0 135 7 = (m7 : Int)) (hb : ∀ p, p < n → 0 ≤ g 147 p ∧ g 147 p ≤ 39) (hK : K (ftF (g0 135) (g 147) m7) g) : cI (d + 1) m_X12_isAsTorn [(vR 134)] dd sh g K := by
  have s2 := hN.s2
  refine mkI (ls := [some (vR 134), none]) rfl rfl rfl rfl rfl (r_X12_isAsTorn_0 ?_)
  refine loop (P := fun k => ftF (g0 135) (g 147) k = 1 → rI d m_X12_isAsTorn 2 [some (vR 134), some (vI ((k : Int)))] [] dd sh g K) (n := m7) ?_ ?_ 0 (by omega) rfl
  · intro h1
    rw [h1] at hK
    refine r_X12_isAsTorn_2 ?_
    rw [e135]
    exact ⟨⟨by omega, by omega⟩, ⟨by omega, by omega⟩, fun _ => hK, fun h => absurd h (by omega)⟩
  · intro k hk ih h1
    have l2 := hN.l2 k (by omega)
    obtain ⟨p, hp⟩ := Int.eq_ofNat_of_zero_le l2.2.1.1
    have hbp := hb p (by omega)
    have hst : ftF (g0 135) (g 147) (k + 1) = if ((g 147 p).tdiv 10 = g0 135 (127 + 3 * k)) ↔ g0 135 (128 + 3 * k) = 1 then 1 else 0 := by
      show (if ftF (g0 135) (g 147) k = 0 then 0 else if ((g 147 (g0 135 (126 + 3 * k)).toNat).tdiv 10 = g0 135 (127 + 3 * k)) ↔ g0 135 (128 + 3 * k) = 1 then 1 else 0) = _
      rw [if_neg (by omega), hp]; rfl
    have no : ¬ (((g 147 p).tdiv 10 = g0 135 (127 + 3 * k)) ↔ g0 135 (128 + 3 * k) = 1) → K 0 g := fun h => by
      rw [if_neg h] at hst
      rw [ftF_zero hst m7 hk] at hK; exact hK
    have yes : (((g 147 p).tdiv 10 = g0 135 (127 + 3 * k)) ↔ g0 135 (128 + 3 * k) = 1) → rI d m_X12_isAsTorn 2 [some (vR 134), some (vI (((k + 1 : Nat) : Int)))] [] dd sh g K := fun h => by
      rw [if_pos h] at hst
      exact ih hst
    have htd : 0 ≤ (g 147 p).tdiv 10 ∧ (g 147 p).tdiv 10 ≤ 3 := by
      rw [Int.tdiv_eq_ediv_of_nonneg hbp.1]; omega
    refine r_X12_isAsTorn_2 ?_
    rw [e135, show (126 + (3 * (k : Int))).toNat = 126 + 3 * k by omega, show ((126 + (3 * (k : Int))) + 1).toNat = 127 + 3 * k by omega, show ((126 + (3 * (k : Int))) + 2).toNat = 128 + 3 * k by omega, hp, show ((p : Int)).toNat = p from rfl]
    refine ⟨⟨by omega, by omega⟩, ⟨by omega, by omega⟩, fun h => absurd h (by omega), fun _ => ⟨by omega, by omega, by omega, by omega, ⟨by omega, by omega⟩, by omega, by omega, ⟨by omega, by omega⟩, ⟨by omega, by omega⟩, fun h => ?_, fun h => ?_⟩⟩
    · exact ⟨by omega, by omega, ⟨by omega, by omega⟩, fun h2 => yes ⟨fun x => absurd x h, fun x => absurd x h2⟩, fun h2 => no fun x => h (x.mpr h2)⟩
    · exact ⟨by omega, by omega, ⟨by omega, by omega⟩, fun h2 => no fun x => h2 (x.mp h), fun h2 => yes ⟨fun _ => h2, fun _ => h⟩⟩
theorem s_X10_sameAsKept {d : Nat} {dd : List (Nat × Nat)} {sh : Nat → Nat → Nat} {g : Nat → Nat → Int} {K : Int → (Nat → Nat → Int) → Prop} {n : Nat} (hn : n ≤ 5) (hb : ∀ p, p < n → i32 (g 132 p) ∧ i32 (g 133 p)) (hK : K (saT (g 132) (g 133) n) g) : cI (d + 1) m_X10_sameAsKept [(vR 128), (vI ((n : Int)))] dd sh g K := by
  refine mkI (ls := [some (vR 128), some (vI ((n : Int))), none, none]) rfl rfl rfl rfl rfl (r_X10_sameAsKept_0 ?_)
  refine loop (P := fun k => rI d m_X10_sameAsKept 4 [some (vR 128), some (vI ((n : Int))), some (vI (saT (g 132) (g 133) k)), some (vI ((k : Int)))] [] dd sh g K) (n := n) ?_ ?_ 0 (by omega)
  · exact r_X10_sameAsKept_4 ⟨⟨by omega, by omega⟩, ⟨by omega, by omega⟩, fun _ => hK, fun h => absurd h (by omega)⟩
  · intro k hk ih
    have b := hb k hk
    refine r_X10_sameAsKept_4 ?_
    rw [show ((k : Int)).toNat = k from rfl]
    refine ⟨⟨by omega, by omega⟩, ⟨by omega, by omega⟩, fun h => absurd h (by omega), fun _ => ⟨by omega, by omega, b.1, b.2, fun h => ?_, fun h => ⟨by omega, ?_⟩⟩⟩
    · rw [show saT (g 132) (g 133) (k + 1) = saT (g 132) (g 133) k from if_neg h] at ih
      exact ih
    · rw [show saT (g 132) (g 133) (k + 1) = ior (saT (g 132) (g 133) k) ((1 : Int) * 2 ^ k) from if_pos h] at ih
      exact ih
theorem s_X10_sittingsByTorn {d : Nat} {dd : List (Nat × Nat)} {sh : Nat → Nat → Nat} {g : Nat → Nat → Int} {K : Int → (Nat → Nat → Int) → Prop} {n m7 : Nat} {v : Int} (hI : Inv dd sh g) (hn : g 135 0 = (n : Int)) (hn5 : n ≤ 5) (h7 : g 135 7 = (m7 : Int)) (hv : v = 0 ∨ v = 1)
    (hK : ∀ g', ClScr g g' → K (if v = 0 then (orT (g 135) n m7).1 else if (orT (g 135) n m7).1 = 0 then 0 else (orT (g 135) n m7).2.1) g') : cI (d + 3) m_X10_sittingsByTorn [(vR 128), (vI v)] dd sh g K := by
  have en := hI.s.n
  have e5 : ∀ p, p < n → g 5 p = g 135 (18 + 7 * p) := fun p hp => (hI.s.pp p (by omega) (by omega)).2.2.1
  have b5 : ∀ p, p < n → 0 ≤ g 135 (18 + 7 * p) ∧ g 135 (18 + 7 * p) ≤ 39 := fun p hp => by have := (hI.s.pb p (by omega)).2.1; rw [e5 p hp] at this; exact this
  have hS : ∀ g', (∀ q, q ≠ 131 → q ≠ 132 → q ≠ 133 → g' q = g q) → ClScr g g' := fun g' h q hq => h q (by omega) (by omega) (by omega)
  have hnp : (0 : Int) < ((2 ^ n : Nat) : Int) := by rw [two_pow_cast]; exact pow2_pos n
  refine mkI (ls := [some (vR 128), some (vI v), none, none, none, none, none, none]) rfl rfl rfl rfl rfl (r_X10_sittingsByTorn_0 ?_)
  rw [en.1, hn]
  refine s_X11_within ⟨by omega, by omega⟩ ⟨by decide, by decide⟩ ⟨by decide, by decide⟩ (by decide) fun r er => ?_
  obtain rfl : r = (n : Int) := by omega
  have main : ∀ (fu : Nat) (l : List Nat) (z : Int × Int × List Nat) (g' : Nat → Nat → Int), chk n fu l = true → fu ≤ 120 → rows (stT (g 135) n m7) n fu l z = orT (g 135) n m7 → (∀ q, q ≠ 131 → q ≠ 132 → q ≠ 133 → g' q = g q) → (∀ c, c < n → g' 131 c = lf l c) → (0 ≤ z.1 ∧ z.1 ≤ 120 - (fu : Int)) → (0 ≤ z.2.1 ∧ z.2.1 < 2 ^ n) → (z.1 = 0 → z.2.1 = ((2 ^ n : Nat) : Int) - 1) → (0 < z.1 → (∀ p, p < n → g' 133 p = tsF (g 135) z.2.2 p) ∧ okl n z.2.2 = true) → rI (d + 2) m_X10_sittingsByTorn 45 [some (vR 128), some (vI v), some (vI ((n : Int))), some (vI (z.1)), some (vI ((if z.1 = 0 then 0 else z.2.1))), some (vI 1), some (vI (120 - (fu : Int))), none] [] dd sh (g') K := by
    intro fu
    induction fu with
    | zero => intro l z g' hc; exact absurd hc (by unfold chk; decide)
    | succ fu ih =>
      intro l z g' hc hfu hR u1 u2 u3 u4 u5 u6
      obtain ⟨f', ef, hok, hor⟩ := chk_pos hc
      obtain rfl : f' = fu := by omega
      have hlt := okl_lt hok
      have hz := stT_b (a := g 135) (n := n) (l := l) (z := z) (m7 := m7) hn5 u3 u4
      have hrel := nx_rel (f := fun c => (c : Int)) (r := g' 131) (n := n) (l := l) lf_mono hok u2
      have hbt : ∀ l', okl n l' = true → ∀ p, p < n → 0 ≤ tsF (g 135) l' p ∧ tsF (g 135) l' p ≤ 39 := fun l' h p hp => b5 _ (okl_lt h p hp)
      refine r_X10_sittingsByTorn_45 ⟨⟨by omega, by omega⟩, fun h => absurd h (by omega), fun _ => ⟨⟨by decide, by decide⟩, fun h => absurd h (by decide), fun _ => ?_⟩⟩
      have hv32 : i32 v := by rcases hv with rfl | rfl <;> exact ⟨by decide, by decide⟩
      have after : ∀ g5 : Nat → Nat → Int, (∀ q, q ≠ 132 → q ≠ 133 → g5 q = g' q) → ((stT (g 135) n m7 z l).1 = 0 → (stT (g 135) n m7 z l).2.1 = ((2 ^ n : Nat) : Int) - 1) → (0 < (stT (g 135) n m7 z l).1 → (∀ p, p < n → g5 133 p = tsF (g 135) (stT (g 135) n m7 z l).2.2 p) ∧ okl n (stT (g 135) n m7 z l).2.2 = true) → cI (d + 2) m_X11_nextOrder [(vR 131), (vI (n : Int))] dd sh g5 (fun r4 g6 => rI (d + 2) m_X10_sittingsByTorn 45 [some (vR 128), some (vI v), some (vI ((n : Int))), some (vI ((stT (g 135) n m7 z l).1)), some (vI ((if (stT (g 135) n m7 z l).1 = 0 then 0 else (stT (g 135) n m7 z l).2.1))), some (vI r4), some (vI (120 - ((f' + 1 : Nat) : Int) + 1)), none] [] dd sh g6 K) := by
        intro g5 x1 x4 x2
        generalize hzz : stT (g 135) n m7 z l = zz at hz x2 x4 ⊢
        have e131 := x1 131 (by decide) (by decide)
        refine s_X11_nextOrder (p := 131) (L := 6) (by decide) rfl (by decide) (by omega) (by rw [e131]; exact hrel.1) (fun c hc => by have hb := hlt c hc; rw [e131, u2 c hc]; unfold lf; omega) (fun hend => ?_) (fun j hj g6 y1 y2 => ?_)
        · rw [e131, hrel.2.1] at hend
          rw [rows_end _ hend, hzz] at hR
          have hk1 := hK g5 (hS g5 fun q q1 q2 q3 => by rw [x1 q q2 q3]; exact u1 q q1 q2 q3)
          rw [← hR] at hk1
          have fin : ((v = 0 → K zz.1 g5) ∧ (¬ v = 0 → K (if zz.1 = 0 then 0 else zz.2.1) g5)) := ⟨fun h => by rw [if_pos h] at hk1; exact hk1, fun h => by rw [if_neg h] at hk1; exact hk1⟩
          exact r_X10_sittingsByTorn_45 ⟨⟨by omega, by omega⟩, fun _ => ⟨hv32, fin⟩, fun _ => ⟨⟨by decide, by decide⟩, fun _ => ⟨hv32, fin⟩, fun h => absurd rfl h⟩⟩
        · rw [e131, hrel.2.1] at hj
          rw [rows_on _ hj, hzz] at hR
          have hc' : chk n f' (nxl n l) = true := hor.resolve_left (by omega)
          have := ih (nxl n l) zz g6 hc' (by omega) hR (fun q q1 q2 q3 => by rw [y1 q q1, x1 q q2 q3]; exact u1 q q1 q2 q3) (fun c hc => by rw [y2 c, e131]; exact hrel.2.2 j hj c hc) ⟨hz.1.1, by omega⟩ hz.2 x4 (fun h => ⟨fun p hp => by rw [y1 133 (by decide)]; exact (x2 h).1 p hp, (x2 h).2⟩)
          rw [show (120 - ((f' + 1 : Nat) : Int) + 1) = 120 - (f' : Int) by omega]
          exact this
      refine loop (P := fun k => ∀ g5, (∀ q, q ≠ 132 → g5 q = g' q) → (∀ p, p < k → g5 132 p = tsF (g 135) l p) → rI (d + 2) m_X10_sittingsByTorn 60 [some (vR 128), some (vI v), some (vI ((n : Int))), some (vI (z.1)), some (vI ((if z.1 = 0 then 0 else z.2.1))), none, some (vI (120 - ((f' + 1 : Nat) : Int))), some (vI ((k : Int)))] [] dd sh g5 K) (n := n) ?_ ?_ 0 (by omega) g' (fun _ _ => rfl) (fun j hj => absurd hj (by omega))
      · intro g5 x1 x3
        have hN5 : RNc g5 (g 135) := by
          refine ClScr.n (hS g5 fun q q1 q2 q3 => ?_) hI.nn
          rw [x1 q q2]; exact u1 q q1 q2 q3
        have s2 := hI.nn.s2
        have hft : ftF (g 135) (g5 132) m7 = ftF (g 135) (tsF (g 135) l) m7 := ftF_congr (m := n) (fun k hk => by have := (hI.nn.l2 k (by omega)).2.1; omega) x3
        have hfb := ftF_b (g 135) (tsF (g 135) l) m7
        refine r_X10_sittingsByTorn_60 ⟨⟨by omega, by omega⟩, ⟨by omega, by omega⟩, fun _ => ?_, fun h => absurd h (by omega)⟩
        refine s_X10_fitsTorn (g0 := g) (n := n) (m7 := m7) hN5 hn hn5 h7 (fun p hp => by rw [x3 p hp]; exact hbt l hok p hp) ?_
        rw [hft]
        refine ⟨⟨by omega, by omega⟩, fun h => ?_, fun h => ⟨⟨by omega, by omega⟩, fun h0 => ?_, fun h0 => ⟨by omega, by omega, ?_⟩⟩⟩
        · have hst : stT (g 135) n m7 z l = z := if_pos h
          rw [hst] at after
          exact after g5 (fun q q1 _ => x1 q q1) u5 (fun hp => ⟨fun p hp2 => by rw [x1 133 (by decide)]; exact (u6 hp).1 p hp2, (u6 hp).2⟩)
        · have hst : stT (g 135) n m7 z l = (z.1 + 1, clT z.2.1 (tsF (g 135) l) (tsF (g 135) z.2.2) n, l) := by
            unfold stT
            rw [if_neg h, if_neg h0]
          rw [hst] at after
          have u66 := u6 (by omega)
          refine s_X10_sameAsKept hn5 (fun p hp => ?_) ?_
          · have a1 := hbt l hok p hp
            have a2 := hbt _ u66.2 p hp
            rw [x3 p hp, x1 133 (by decide), u66.1 p hp]
            exact ⟨⟨by omega, by omega⟩, ⟨by omega, by omega⟩⟩
          refine s_X11_copyRow (p0 := 132) (p1 := 133) (n := 6) (m := 6) (by decide) (by decide) (by decide) rfl rfl (by decide) (by decide) ?_
          have hcl : iand (if z.1 = 0 then 0 else z.2.1) (saT (g5 132) (g5 133) n) = clT z.2.1 (tsF (g 135) l) (tsF (g 135) z.2.2) n := by
            rw [if_neg h0, cl_sa hn5 u4]
            exact clT_congr x3 fun p hp => by rw [x1 133 (by decide)]; exact u66.1 p hp
          rw [hcl]
          have hne : ¬ z.1 + 1 = 0 := by omega
          have := after (cpy g5 132 133 (min 6 6)) (fun q q1 q2 => by funext j; unfold cpy; rw [if_neg (fun h => q2 h.1)]; exact congrFun (x1 q q1) j) (fun hh => absurd hh hne) (fun _ => ⟨fun p hp => by unfold cpy; rw [if_pos ⟨rfl, by omega⟩]; exact x3 p hp, hok⟩)
          rw [if_neg hne] at this
          exact this
        · have hst : stT (g 135) n m7 z l = (z.1 + 1, z.2.1, l) := by
            unfold stT
            rw [if_neg h, if_pos h0]
          rw [hst] at after
          refine s_X11_copyRow (p0 := 132) (p1 := 133) (n := 6) (m := 6) (by decide) (by decide) (by decide) rfl rfl (by decide) (by decide) ?_
          have hne : ¬ z.1 + 1 = 0 := by omega
          have := after (cpy g5 132 133 (min 6 6)) (fun q q1 q2 => by funext j; unfold cpy; rw [if_neg (fun h => q2 h.1)]; exact congrFun (x1 q q1) j) (fun hh => absurd hh hne) (fun _ => ⟨fun p hp => by unfold cpy; rw [if_pos ⟨rfl, by omega⟩]; exact x3 p hp, hok⟩)
          rw [if_neg hne, u5 h0] at this
          rw [show ((n : Int)).toNat = n from rfl, one_two]
          exact this
      · intro k hk ihk g5 x1 x3
        have hl1 := hlt k hk
        have e131 : g5 131 k = ((l.getD k 0 : Nat) : Int) := by rw [x1 131 (by decide)]; exact u2 k hk
        refine r_X10_sittingsByTorn_60 ?_
        rw [show ((k : Int)).toNat = k from rfl, e131, show (((l.getD k 0 : Nat) : Int)).toNat = l.getD k 0 from rfl]
        refine ⟨⟨by omega, by omega⟩, ⟨by omega, by omega⟩, fun h => absurd h (by omega), fun _ => ⟨by omega, by omega, by omega, by omega, ?_⟩⟩
        refine ihk _ (fun q q1 => by rw [up_off q1]; exact x1 q q1) (fun j hj => ?_)
        rw [up_at]
        by_cases e : j = k
        · subst e
          rw [if_pos rfl, x1 5 (by decide), u1 5 (by decide) (by decide) (by decide)]
          exact e5 _ hl1
        · rw [if_neg e]; exact x3 j (by omega)
  refine loop (P := fun k => ∀ g', (∀ q, q ≠ 131 → g' q = g q) → (∀ c : Nat, c < k → g' 131 c = (c : Int)) → rI (d + 2) m_X10_sittingsByTorn 16 [some (vR 128), some (vI v), some (vI ((n : Int))), some (vI ((k : Int))), none, none, none, none] [] dd sh (g') K) (n := n) ?_ ?_ 0 (by omega) g (fun _ _ => rfl) (fun c hc => absurd hc (by omega))
  · intro g' f1 f2
    refine r_X10_sittingsByTorn_16 ⟨⟨by omega, by omega⟩, ⟨by omega, by omega⟩, fun _ => ?_, fun h => absurd h (by omega)⟩
    exact main 120 (List.range n) (0, ((2 ^ n : Nat) : Int) - 1, []) g' (chk_all n (by omega)) (by decide) rfl (fun q q1 _ _ => f1 q q1) (fun c hc => by unfold lf; rw [range_get hc]; exact f2 c hc) ⟨Int.le_refl _, show (0 : Int) ≤ 120 - ((120 : Nat) : Int) by decide⟩ ⟨by show 0 ≤ ((2 ^ n : Nat) : Int) - 1; omega, by show ((2 ^ n : Nat) : Int) - 1 < 2 ^ n; rw [← two_pow_cast]; omega⟩ (fun _ => rfl) (fun h => absurd h (show ¬ ((0 : Int) < 0) by decide))
  · intro k hk ih g' f1 f2
    refine r_X10_sittingsByTorn_16 ⟨⟨by omega, by omega⟩, ⟨by omega, by omega⟩, fun h => absurd h (by omega), fun _ => ⟨by omega, by omega, ?_⟩⟩
    refine ih _ (fun q q1 => by rw [up_off q1]; exact f1 q q1) (fun c hc => ?_)
    rw [up_at]
    by_cases e : c = k
    · subst e; exact if_pos rfl
    · rw [if_neg (by omega)]; exact f2 c (by omega)
theorem sit_main {d : Nat} {dd : List (Nat × Nat)} {sh : Nat → Nat → Nat} {g : Nat → Nat → Int} {K : Int → (Nat → Nat → Int) → Prop} {g0 : Nat → Nat → Int} {n m7 : Nat} {v : Int} (hI : Inv dd sh g0) (e135 : g 135 = g0 135) (hn : g0 135 0 = (n : Int)) (hn5 : n ≤ 5) (h7 : g0 135 7 = (m7 : Int)) (hv : v = 0 ∨ v = 1) (k1 : ∀ c : Nat, c < n → g 144 c = (c : Int))
    (hK : ∀ g', RefScr g g' → K (if v = 0 then (orT (g0 135) n m7).1 else if (orT (g0 135) n m7).1 = 0 then 0 else (orT (g0 135) n m7).2.1) g') : rI (d + 2) m_X12_sittings 39 [some (vR 134), some (vI v), some (vI ((n : Int))), some (vI 0), some (vI (((2 ^ n : Nat) : Int) - 1)), some (vI 1), none] [] dd sh g K := by
  have en := hI.s.n
  have b5 : ∀ p, p < n → 0 ≤ g0 135 (18 + 7 * p) ∧ g0 135 (18 + 7 * p) ≤ 39 := fun p hp => by have := (hI.s.ab.pp p (by omega) (by omega)); omega
  have hS : ∀ g', (∀ q, q ≠ 144 → q ≠ 145 → q ≠ 147 → g' q = g q) → RefScr g g' := fun g' h => ⟨fun q hq => h q (by omega) (by omega) (by omega), fun k _ => by rw [h 134 (by omega) (by omega) (by omega)]⟩
  have hnp : (0 : Int) < ((2 ^ n : Nat) : Int) := by rw [two_pow_cast]; exact pow2_pos n
  have main : ∀ (fu : Nat) (l : List Nat) (z : Int × Int × List Nat) (g' : Nat → Nat → Int), chk n fu l = true → fu ≤ 120 → rows (stT (g0 135) n m7) n fu l z = orT (g0 135) n m7 → (∀ q, q ≠ 144 → q ≠ 145 → q ≠ 147 → g' q = g q) → (∀ c, c < n → g' 144 c = lf l c) → (0 ≤ z.1 ∧ z.1 ≤ 120 - (fu : Int)) → (0 ≤ z.2.1 ∧ z.2.1 < 2 ^ n) → (0 < z.1 → (∀ p, p < n → g' 145 p = tsF (g0 135) z.2.2 p) ∧ okl n z.2.2 = true) → rI (d + 2) m_X12_sittings 39 [some (vR 134), some (vI v), some (vI ((n : Int))), some (vI (z.1)), some (vI (z.2.1)), some (vI 1), none] [] dd sh (g') K := by
    intro fu
    induction fu with
    | zero => intro l z g' hc; exact absurd hc (by unfold chk; decide)
    | succ fu ih =>
      intro l z g' hc hfu hR u1 u2 u3 u4 u6
      obtain ⟨f', ef, hok, hor⟩ := chk_pos hc
      obtain rfl : f' = fu := by omega
      have hlt := okl_lt hok
      have hz := stT_b (a := g0 135) (n := n) (l := l) (z := z) (m7 := m7) hn5 u3 u4
      have hrel := nx_rel (f := fun c => (c : Int)) (r := g' 144) (n := n) (l := l) lf_mono hok u2
      have hbt : ∀ l', okl n l' = true → ∀ p, p < n → 0 ≤ tsF (g0 135) l' p ∧ tsF (g0 135) l' p ≤ 39 := fun l' h p hp => b5 _ (okl_lt h p hp)
      have hv32 : i32 v := by rcases hv with rfl | rfl <;> exact ⟨by decide, by decide⟩
      refine r_X12_sittings_39 ⟨⟨by decide, by decide⟩, fun h => absurd h (by decide), fun _ => ?_⟩
      have after : ∀ g5 : Nat → Nat → Int, (∀ q, q ≠ 145 → q ≠ 147 → g5 q = g' q) → (0 < (stT (g0 135) n m7 z l).1 → (∀ p, p < n → g5 145 p = tsF (g0 135) (stT (g0 135) n m7 z l).2.2 p) ∧ okl n (stT (g0 135) n m7 z l).2.2 = true) → cI (d + 2) m_X12_nextRow [(vR 134), (vI (n : Int))] dd sh g5 (fun r4 g6 => rI (d + 2) m_X12_sittings 39 [some (vR 134), some (vI v), some (vI ((n : Int))), some (vI ((stT (g0 135) n m7 z l).1)), some (vI ((stT (g0 135) n m7 z l).2.1)), some (vI r4), none] [] dd sh g6 K) := by
        intro g5 x1 x2
        generalize hzz : stT (g0 135) n m7 z l = zz at hz x2 ⊢
        have e144 := x1 144 (by decide) (by decide)
        refine s_X12_nextRow (by omega) (by rw [e144]; exact hrel.1) (fun c hc => by have hb := hlt c hc; rw [e144, u2 c hc]; unfold lf; omega) (fun hend => ?_) (fun j hj g6 y1 y2 => ?_)
        · rw [e144, hrel.2.1] at hend
          rw [rows_end _ hend, hzz] at hR
          have hk1 := hK g5 (hS g5 fun q q1 q2 q3 => by rw [x1 q q2 q3]; exact u1 q q1 q2 q3)
          rw [← hR] at hk1
          refine r_X12_sittings_39 ⟨⟨by decide, by decide⟩, fun _ => ⟨hv32, fun h => ⟨⟨by omega, by omega⟩, fun h2 => ?_, fun h2 => ?_⟩, fun h => ?_⟩, fun h => absurd rfl h⟩
          · rw [if_neg h, if_neg h2] at hk1; exact hk1
          · rw [if_neg h, if_pos h2] at hk1; exact hk1
          · rw [if_pos h] at hk1; exact hk1
        · rw [e144, hrel.2.1] at hj
          rw [rows_on _ hj, hzz] at hR
          have hc' : chk n f' (nxl n l) = true := hor.resolve_left (by omega)
          exact ih (nxl n l) zz g6 hc' (by omega) hR (fun q q1 q2 q3 => by rw [y1 q q1, x1 q q2 q3]; exact u1 q q1 q2 q3) (fun c hc => by rw [y2 c, e144]; exact hrel.2.2 j hj c hc) ⟨hz.1.1, by omega⟩ hz.2 (fun h => ⟨fun p hp => by rw [y1 145 (by decide)]; exact (x2 h).1 p hp, (x2 h).2⟩)
      refine loop (P := fun k => ∀ g5, (∀ q, q ≠ 147 → g5 q = g' q) → (∀ p, p < k → g5 147 p = tsF (g0 135) l p) → rI (d + 2) m_X12_sittings 47 [some (vR 134), some (vI v), some (vI ((n : Int))), some (vI (z.1)), some (vI (z.2.1)), none, some (vI ((k : Int)))] [] dd sh g5 K) (n := n) ?_ ?_ 0 (by omega) g' (fun _ _ => rfl) (fun j hj => absurd hj (by omega))
      · intro g5 x1 x3
        have s2 := hI.nn.s2
        have hft : ftF (g0 135) (g5 147) m7 = ftF (g0 135) (tsF (g0 135) l) m7 := ftF_congr (m := n) (fun k hk => by have := (hI.nn.l2 k (by omega)).2.1; omega) x3
        have hfb := ftF_b (g0 135) (tsF (g0 135) l) m7
        refine r_X12_sittings_47 ⟨⟨by omega, by omega⟩, ⟨by omega, by omega⟩, fun _ => ?_, fun h => absurd h (by omega)⟩
        refine s_X12_isAsTorn (g0 := g0) (n := n) (m7 := m7) hI.nn (by rw [x1 135 (by decide), u1 135 (by decide) (by decide) (by decide)]; exact e135) hn hn5 h7 (fun p hp => by rw [x3 p hp]; exact hbt l hok p hp) ?_
        rw [hft]
        refine ⟨⟨by omega, by omega⟩, fun h => ?_, fun h => ?_⟩
        · have hst : stT (g0 135) n m7 z l = z := if_pos h
          rw [hst] at after
          exact after g5 (fun q _ q1 => x1 q q1) (fun hp => ⟨fun p hp2 => by rw [x1 145 (by decide)]; exact (u6 hp).1 p hp2, (u6 hp).2⟩)
        · have hst : stT (g0 135) n m7 z l = (z.1 + 1, (if z.1 = 0 then z.2.1 else clT z.2.1 (tsF (g0 135) l) (tsF (g0 135) z.2.2) n), l) := if_neg h
          rw [hst] at after
          have e0 : (if z.1 = 0 then z.2.1 else clT z.2.1 (tsF (g0 135) l) (tsF (g0 135) z.2.2) 0) = z.2.1 := by split <;> rfl
          rw [← e0]
          refine loop (P := fun k => ∀ g6, (∀ q, q ≠ 145 → g6 q = g5 q) → (∀ p, p < k → g6 145 p = tsF (g0 135) l p) → (∀ p, k ≤ p → g6 145 p = g5 145 p) → rI (d + 2) m_X12_sittings 88 [some (vR 134), some (vI v), some (vI ((n : Int))), some (vI (z.1)), some (vI ((if z.1 = 0 then z.2.1 else clT z.2.1 (tsF (g0 135) l) (tsF (g0 135) z.2.2) k))), none, some (vI ((k : Int)))] [] dd sh g6 K) (n := n) ?_ ?_ 0 (by omega) g5 (fun _ _ => rfl) (fun j hj => absurd hj (by omega)) (fun _ _ => rfl)
          · intro g6 y1 y2 y3
            exact r_X12_sittings_88 ⟨⟨by omega, by omega⟩, ⟨by omega, by omega⟩, fun _ => after g6 (fun q q1 q2 => by rw [y1 q q1]; exact x1 q q2) (fun _ => ⟨y2, hok⟩), fun h => absurd h (by omega)⟩
          · intro k hk ihk g6 y1 y2 y3
            have e147 : g6 147 k = tsF (g0 135) l k := by rw [y1 147 (by decide)]; exact x3 k hk
            have hb1 := hbt l hok k hk
            have hnext : ∀ p, p < k + 1 → up g6 145 k (tsF (g0 135) l k) 145 p = tsF (g0 135) l p := fun p hp => by
              rw [up_at]
              by_cases e : p = k
              · subst e; exact if_pos rfl
              · rw [if_neg e]; exact y2 p (by omega)
            have hnext2 : ∀ p, k + 1 ≤ p → up g6 145 k (tsF (g0 135) l k) 145 p = g5 145 p := fun p hp => by
              rw [up_at, if_neg (by omega)]; exact y3 p (by omega)
            have hgo := ihk (up g6 145 k (tsF (g0 135) l k)) (fun q q1 => by rw [up_off q1]; exact y1 q q1) hnext hnext2
            refine r_X12_sittings_88 ?_
            rw [show ((k : Int)).toNat = k from rfl, e147]
            refine ⟨⟨by omega, by omega⟩, ⟨by omega, by omega⟩, fun h => absurd h (by omega), fun _ => ⟨⟨by omega, by omega⟩, fun h0 => ⟨by omega, by omega, by omega, ?_⟩, fun h0 => ?_⟩⟩
            · have hz0 : z.1 = 0 := by omega
              rw [if_pos hz0] at hgo ⊢
              exact hgo
            · have hz0 : ¬ z.1 = 0 := by omega
              have u66 := u6 h0
              have hb2 := hbt _ u66.2 k hk
              have e145 : g6 145 k = tsF (g0 135) z.2.2 k := by rw [y3 k (Nat.le_refl _), x1 145 (by decide)]; exact u66.1 k hk
              rw [if_neg hz0] at hgo ⊢
              rw [e145]
              refine ⟨by omega, by omega, by omega, ⟨by omega, by omega⟩, ⟨by omega, by omega⟩, fun h2 => ?_, fun h2 => ⟨by omega, ?_⟩⟩
              · rw [show clT z.2.1 (tsF (g0 135) l) (tsF (g0 135) z.2.2) (k + 1) = clT z.2.1 (tsF (g0 135) l) (tsF (g0 135) z.2.2) k from if_pos h2] at hgo
                exact hgo
              · rw [show clT z.2.1 (tsF (g0 135) l) (tsF (g0 135) z.2.2) (k + 1) = iand (clT z.2.1 (tsF (g0 135) l) (tsF (g0 135) z.2.2) k) (ixor ((1 : Int) * 2 ^ k) (-1)) from if_neg h2] at hgo
                exact hgo
      · intro k hk ihk g5 x1 x3
        have hl1 := hlt k hk
        have e144 : g5 144 k = ((l.getD k 0 : Nat) : Int) := by rw [x1 144 (by decide)]; exact u2 k hk
        refine r_X12_sittings_47 ?_
        rw [show ((k : Int)).toNat = k from rfl, e144]
        refine ⟨⟨by omega, by omega⟩, ⟨by omega, by omega⟩, fun h => absurd h (by omega), fun _ => ⟨by omega, by omega, s_get2 (by omega) ⟨by omega, ?_⟩⟩⟩
        refine ihk _ (fun q q1 => by rw [up_off q1]; exact x1 q q1) (fun j hj => ?_)
        rw [up_at]
        by_cases e : j = k
        · subst e
          rw [if_pos rfl, x1 135 (by decide), u1 135 (by decide) (by decide) (by decide), e135]; rfl
        · rw [if_neg e]; exact x3 j (by omega)
  exact main 120 (List.range n) (0, ((2 ^ n : Nat) : Int) - 1, []) g (chk_all n (by omega)) (by decide) rfl (fun _ _ _ _ => rfl) (fun c hc => by unfold lf; rw [range_get hc]; exact k1 c hc) ⟨Int.le_refl _, show (0 : Int) ≤ 120 - ((120 : Nat) : Int) by decide⟩ ⟨by show 0 ≤ ((2 ^ n : Nat) : Int) - 1; omega, by show ((2 ^ n : Nat) : Int) - 1 < 2 ^ n; rw [← two_pow_cast]; omega⟩ (fun h => absurd h (show ¬ ((0 : Int) < 0) by decide))
theorem orT_b {a : Nat → Int} {n m7 : Nat} (hn : n ≤ 5) : (0 ≤ (orT a n m7).1 ∧ (orT a n m7).1 ≤ 120) ∧ 0 ≤ (orT a n m7).2.1 ∧ (orT a n m7).2.1 < 2 ^ n := by
  have hnp : (0 : Int) < ((2 ^ n : Nat) : Int) := by rw [two_pow_cast]; exact pow2_pos n
  have key : ∀ (f : Nat) (l : List Nat) (z : Int × Int × List Nat), f ≤ 120 → (0 ≤ z.1 ∧ z.1 ≤ 120 - (f : Int)) → (0 ≤ z.2.1 ∧ z.2.1 < 2 ^ n) → (0 ≤ (rows (stT a n m7) n f l z).1 ∧ (rows (stT a n m7) n f l z).1 ≤ 120) ∧ 0 ≤ (rows (stT a n m7) n f l z).2.1 ∧ (rows (stT a n m7) n f l z).2.1 < 2 ^ n := by
    intro f
    induction f with
    | zero => intro l z _ h1 h2; exact ⟨⟨h1.1, show z.1 ≤ 120 by have := h1.2; omega⟩, h2⟩
    | succ f ih =>
      intro l z hf h1 h2
      have := stT_b (a := a) (n := n) (l := l) (z := z) (m7 := m7) hn h1 h2
      unfold rows
      split
      · exact ⟨⟨this.1.1, by omega⟩, this.2⟩
      · exact ih _ _ (by omega) ⟨this.1.1, by omega⟩ this.2
  exact key 120 _ _ (by decide) ⟨Int.le_refl _, show (0 : Int) ≤ 120 - ((120 : Nat) : Int) by decide⟩ ⟨by show 0 ≤ ((2 ^ n : Nat) : Int) - 1; omega, by show ((2 ^ n : Nat) : Int) - 1 < 2 ^ n; rw [← two_pow_cast]; omega⟩
theorem sim_sittings : S_sittings := by
  intro dd sh g hI a1 h1
  have en := hI.s.n
  have s2 := hI.nn.s2
  obtain ⟨n, hn⟩ := Int.eq_ofNat_of_zero_le en.2.1
  obtain ⟨m7, h7⟩ := Int.eq_ofNat_of_zero_le s2.2.1
  unfold SimI
  refine mkI (ls := [some (vR 1), some (vI a1)]) rfl rfl rfl rfl rfl (r_X11_sittings_0 ?_)
  rw [en.1, hn]
  refine ⟨⟨by omega, by omega⟩, fun h5 => ?_, fun h5 => ?_⟩
  · refine s_X10_sittingsByTorn hI hn (by omega) h7 h1 fun g1 hs => ?_
    have hb := orT_b (a := g 135) (n := n) (m7 := m7) (by omega)
    have hp2 : (2 : Int) ^ n ≤ 2 ^ 5 := pow2_le (by omega)
    have e5 : g1 135 = g 135 := hs 135 (by omega)
    have hri : i32 (if a1 = 0 then (orT (g 135) n m7).1 else if (orT (g 135) n m7).1 = 0 then 0 else (orT (g 135) n m7).2.1) := by
      split
      · exact ⟨by omega, by omega⟩
      · split
        · exact ⟨by decide, by decide⟩
        · exact ⟨by omega, by omega⟩
    have hall := all_m n (by omega)
    have hnp : (0 : Int) < ((2 ^ n : Nat) : Int) := by rw [two_pow_cast]; exact pow2_pos n
    refine mkI (ls := [some (vR 134), some (vI a1), none, none, none, none, none]) rfl rfl rfl rfl rfl (r_X12_sittings_0 ?_)
    rw [e5, hn, show ((n : Int)).toNat = n from rfl, one_two]
    refine ⟨⟨by omega, by omega⟩, fun _ => ⟨by omega, by omega, ?_⟩, fun h => absurd h (by omega)⟩
    refine s_X12_layMembers (by omega) fun g2 f1 f2 f3 => ?_
    rw [hall.1] at f3 ⊢
    have hr : RefScr g1 g2 := ⟨fun q hq => f1 q (by omega) (by omega), fun k _ => by rw [f1 134 (by omega) (by omega)]⟩
    refine ⟨by omega, by omega, ?_⟩
    rw [show ((n : Int)).toNat = n from rfl, one_two]
    exact sit_main hI (by rw [f1 135 (by decide) (by decide)]; exact e5) hn (by omega) h7 h1 (fun c hc => f3 c (by omega)) fun g3 hr3 => ⟨rfl, hri, hI.scr hs (hr.tr hr3)⟩
  · refine mkI (ls := [some (vR 134), some (vI a1), none, none, none, none, none]) rfl rfl rfl rfl rfl (r_X12_sittings_0 ?_)
    rw [hn]
    exact ⟨⟨by omega, by omega⟩, fun h => absurd h (by omega), fun _ => ⟨rfl, ⟨by decide, by decide⟩, hI⟩⟩
