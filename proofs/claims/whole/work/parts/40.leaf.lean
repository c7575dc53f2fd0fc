-- the leaves' contracts (by wip/whole/pp.py)
theorem imp_mk {p q : Prop} (h : p → q) : p → q := h
theorem loop {P : Nat → Prop} {n : Nat} (h0 : P n) (hs : ∀ k, k < n → P (k + 1) → P k) : ∀ k, k ≤ n → P k := by
  have : ∀ m k, k + m = n → P k := by
    intro m
    induction m with
    | zero => intro k hk; have e : k = n := by omega
              subst e; exact h0
    | succ m ih => intro k hk; exact hs k (by omega) (ih (k + 1) (by omega))
  exact fun k hk => this (n - k) k (by omega)
theorem iand_nat {x y : Nat} (hx : x < 2147483648) (hy : y < 2147483648) : iand (x : Int) (y : Int) = ((x &&& y : Nat) : Int) := by
  have hz : x &&& y ≤ y := Nat.and_le_right
  unfold iand
  rw [← Int32.toInt_toBitVec, Int32.toBitVec_and, Int32.toBitVec_ofInt, Int32.toBitVec_ofInt, BitVec.ofInt_natCast, BitVec.ofInt_natCast]
  have e : (BitVec.ofNat 32 x &&& BitVec.ofNat 32 y).toNat = x &&& y := by
    rw [BitVec.toNat_and, BitVec.toNat_ofNat, BitVec.toNat_ofNat, Nat.mod_eq_of_lt (by omega), Nat.mod_eq_of_lt (by omega)]
  rw [BitVec.toInt_eq_toNat_of_lt (by rw [e]; omega), e]
theorem ior_nat {x y : Nat} (hx : x < 1073741824) (hy : y < 1073741824) : ior (x : Int) (y : Int) = ((x ||| y : Nat) : Int) := by
  have hz : x ||| y < 2 ^ 30 := Nat.or_lt_two_pow hx hy
  unfold ior
  rw [← Int32.toInt_toBitVec, Int32.toBitVec_or, Int32.toBitVec_ofInt, Int32.toBitVec_ofInt, BitVec.ofInt_natCast, BitVec.ofInt_natCast]
  have e : (BitVec.ofNat 32 x ||| BitVec.ofNat 32 y).toNat = x ||| y := by
    rw [BitVec.toNat_or, BitVec.toNat_ofNat, BitVec.toNat_ofNat, Nat.mod_eq_of_lt (by omega), Nat.mod_eq_of_lt (by omega)]
  rw [BitVec.toInt_eq_toNat_of_lt (by rw [e]; omega), e]
theorem iand_one {x : Int} (h : 0 ≤ x) (h2 : x ≤ 2147483647) : iand x 1 = x % 2 := by
  obtain ⟨n, rfl⟩ := Int.eq_ofNat_of_zero_le h
  have := iand_nat (x := n) (y := 1) (by omega) (by omega)
  rw [show ((1 : Nat) : Int) = 1 from rfl] at this
  rw [this, Nat.and_one_is_mod]
  omega
theorem iand_bt {x : Int} {p : Nat} (h : 0 ≤ x) (h2 : x ≤ 2147483647) : iand (x / 2 ^ p) 1 = bt x p := by
  have hp : (0 : Int) < 2 ^ p := Int.pow_pos (by decide)
  have h3 : 0 ≤ x / 2 ^ p := Int.ediv_nonneg h (by omega)
  have h4 : x / 2 ^ p ≤ x := Int.ediv_le_self _ h
  exact iand_one h3 (by omega)
/-- f 0 + .. + f (n - 1) -/
def sm (f : Nat → Int) : Nat → Int
  | 0 => 0
  | n + 1 => sm f n + f n
theorem sm_congr {f f' : Nat → Int} {n : Nat} (h : ∀ k, k < n → f k = f' k) : sm f n = sm f' n := by
  induction n with
  | zero => rfl
  | succ n ih => show sm f n + f n = sm f' n + f' n; rw [ih fun k hk => h k (by omega), h n (by omega)]
theorem sm_zero {f : Nat → Int} {n m : Nat} (hnm : n ≤ m) (h : ∀ k, n ≤ k → k < m → f k = 0) : sm f m = sm f n := by
  induction m with
  | zero => have e : n = 0 := by omega
            rw [e]
  | succ m ih =>
    by_cases e : n = m + 1
    · rw [e]
    · show sm f m + f m = _
      rw [h m (by omega) (by omega), ih (by omega) fun k h1 h2 => h k h1 (by omega)]
      omega
theorem sm_bound {f : Nat → Int} {n : Nat} {B : Int} (h : ∀ k, k < n → 0 ≤ f k ∧ f k ≤ B) : 0 ≤ sm f n ∧ sm f n ≤ n * B := by
  induction n with
  | zero => show (0 : Int) ≤ 0 ∧ (0 : Int) ≤ ((0 : Nat) : Int) * B; constructor <;> simp
  | succ n ih =>
    have h1 := ih fun k hk => h k (by omega)
    have h2 := h n (by omega)
    show 0 ≤ sm f n + f n ∧ sm f n + f n ≤ ((n + 1 : Nat) : Int) * B
    rw [show ((n + 1 : Nat) : Int) = (n : Int) + 1 from rfl, Int.add_mul, Int.one_mul]
    omega
theorem pow2_pos (q : Nat) : (0 : Int) < 2 ^ q := Int.pow_pos (by decide)
theorem pow2_le {q p : Nat} (h : q ≤ p) : (2 : Int) ^ q ≤ 2 ^ p := by
  induction h with
  | refl => exact Int.le_refl _
  | step _ ih => rw [Int.pow_succ]; have := pow2_pos q; omega
/-- a power -/
def pw (v : Int) : Nat → Int
  | 0 => 1
  | n + 1 => pw v n * v
theorem bt_zero {x : Int} {p q : Nat} (h : 0 ≤ x) (h2 : x < 2 ^ q) (hpq : q ≤ p) : bt x p = 0 := by
  unfold bt
  have h3 : (2 : Int) ^ q ≤ 2 ^ p := pow2_le hpq
  rw [Int.ediv_eq_zero_of_lt h (by omega)]
  rfl
theorem s_X11_hasBit {d : Nat} {dd : List (Nat × Nat)} {sh : Nat → Nat → Nat} {g : Nat → Nat → Int} {K : Int → (Nat → Nat → Int) → Prop} {v0 v1 : Int} (h0 : 0 ≤ v0) (h0' : v0 ≤ 2147483647) (h1 : 0 ≤ v1) (h1' : v1 ≤ 31) (hK : ∀ r, r = bt v0 v1.toNat → 0 ≤ r → r ≤ 1 → K r g) : cI (d + 1) m_X11_hasBit [(vI v0), (vI v1)] dd sh g K := by
  refine mkI (ls := [some (vI v0), some (vI v1)]) rfl rfl rfl rfl rfl (r_X11_hasBit_0 ?_)
  have hb := bt01 v0 v1.toNat
  rw [iand_bt h0 h0']
  repeat' (first
    | (refine imp_mk ?_; intro hh; first | contradiction | (exfalso; omega) | skip)
    | (exact hK _ (by omega) (by omega) (by omega))
    | refine And.intro ?_ ?_
    | omega)
theorem s_X12_has {d : Nat} {dd : List (Nat × Nat)} {sh : Nat → Nat → Nat} {g : Nat → Nat → Int} {K : Int → (Nat → Nat → Int) → Prop} {v0 v1 : Int} (h0 : 0 ≤ v0) (h0' : v0 ≤ 2147483647) (h1 : 0 ≤ v1) (h1' : v1 ≤ 31) (hK : ∀ r, r = bt v0 v1.toNat → 0 ≤ r → r ≤ 1 → K r g) : cI (d + 1) m_X12_has [(vI v0), (vI v1)] dd sh g K := by
  refine mkI (ls := [some (vI v0), some (vI v1)]) rfl rfl rfl rfl rfl (r_X12_has_0 ?_)
  have hb := bt01 v0 v1.toNat
  rw [iand_bt h0 h0']
  repeat' (first
    | (refine imp_mk ?_; intro hh; first | contradiction | (exfalso; omega) | skip)
    | (exact hK _ (by omega) (by omega) (by omega))
    | refine And.intro ?_ ?_
    | omega)
theorem s_X11_countBits {d : Nat} {dd : List (Nat × Nat)} {sh : Nat → Nat → Nat} {g : Nat → Nat → Int} {K : Int → (Nat → Nat → Int) → Prop} {v0 : Int} (h0 : 0 ≤ v0) (h0' : v0 ≤ 2147483647) (hK : K (sm (bt v0) 32) g) : cI (d + 1) m_X11_countBits [(vI v0)] dd sh g K := by
  refine mkI (ls := [some (vI v0), none, none]) rfl rfl rfl rfl rfl (r_X11_countBits_0 ?_)
  refine loop (P := fun k => rI d m_X11_countBits 4 [some (vI v0), some (vI (sm (bt v0) k)), some (vI ((k : Int)))] [] dd sh g K) (n := 32) ?_ ?_ 0 (by omega)
  · refine r_X11_countBits_4 ?_
    repeat' (first
      | (refine imp_mk ?_; intro hh; first | contradiction | (exfalso; omega) | skip)
      | (exact hK)
      | refine And.intro ?_ ?_
      | omega)
  · intro k hk ih
    refine r_X11_countBits_4 ?_
    rw [show iand (v0 / 2 ^ ((k : Int)).toNat) 1 = bt v0 k from iand_bt h0 h0']
    repeat' (first
      | (refine imp_mk ?_; intro hh; first | contradiction | (exfalso; omega) | skip)
      | (exact ih)
      | refine And.intro ?_ ?_
      | omega)
theorem s_X12_bits {d : Nat} {dd : List (Nat × Nat)} {sh : Nat → Nat → Nat} {g : Nat → Nat → Int} {K : Int → (Nat → Nat → Int) → Prop} {v0 : Int} (h0 : 0 ≤ v0) (h0' : v0 ≤ 2147483647) (hK : K (sm (bt v0) 10) g) : cI (d + 1) m_X12_bits [(vI v0)] dd sh g K := by
  refine mkI (ls := [some (vI v0), none, none]) rfl rfl rfl rfl rfl (r_X12_bits_0 ?_)
  refine loop (P := fun k => rI d m_X12_bits 4 [some (vI v0), some (vI (sm (bt v0) k)), some (vI ((k : Int)))] [] dd sh g K) (n := 10) ?_ ?_ 0 (by omega)
  · refine r_X12_bits_4 ?_
    repeat' (first
      | (refine imp_mk ?_; intro hh; first | contradiction | (exfalso; omega) | skip)
      | (exact hK)
      | refine And.intro ?_ ?_
      | omega)
  · intro k hk ih
    refine r_X12_bits_4 ?_
    rw [show iand (v0 / 2 ^ ((k : Int)).toNat) 1 = bt v0 k from iand_bt h0 h0']
    repeat' (first
      | (refine imp_mk ?_; intro hh; first | contradiction | (exfalso; omega) | skip)
      | (exact ih)
      | refine And.intro ?_ ?_
      | omega)
theorem bits_eq {x : Int} {q m : Nat} (h : 0 ≤ x) (h2 : x < 2 ^ q) (hq : q ≤ m) : sm (bt x) m = sm (bt x) q := sm_zero hq fun k h3 _ => bt_zero h h2 h3
theorem s_X12_isIn {d : Nat} {dd : List (Nat × Nat)} {sh : Nat → Nat → Nat} {g : Nat → Nat → Int} {K : Int → (Nat → Nat → Int) → Prop} {v0 v1 v2 : Int} (h0 : i32 v0) (h1 : i32 v1) (h2 : i32 v2) (hK : v1 ≤ v0 → v0 ≤ v2 → K 1 g) (hK0 : v0 < v1 ∨ v2 < v0 → K 0 g) : cI (d + 1) m_X12_isIn [(vI v0), (vI v1), (vI v2)] dd sh g K := by
  refine mkI (ls := [some (vI v0), some (vI v1), some (vI v2)]) rfl rfl rfl rfl rfl (r_X12_isIn_0 ?_)
  repeat' (first
    | (refine imp_mk ?_; intro hh; first | contradiction | (exfalso; omega) | skip)
    | (exact hK (by omega) (by omega))
    | (exact hK0 (by omega))
    | refine And.intro ?_ ?_
    | omega)
theorem s_X11_within {d : Nat} {dd : List (Nat × Nat)} {sh : Nat → Nat → Nat} {g : Nat → Nat → Int} {K : Int → (Nat → Nat → Int) → Prop} {v0 v1 v2 : Int} (h0 : i32 v0) (h1 : i32 v1) (h2 : i32 v2) (h12 : v1 ≤ v2) (hK : ∀ r, r = min (max v0 v1) v2 → K r g) : cI (d + 1) m_X11_within [(vI v0), (vI v1), (vI v2)] dd sh g K := by
  refine mkI (ls := [some (vI v0), some (vI v1), some (vI v2)]) rfl rfl rfl rfl rfl (r_X11_within_0 ?_)
  repeat' (first
    | (refine imp_mk ?_; intro hh; first | contradiction | (exfalso; omega) | skip)
    | (exact hK _ (by omega))
    | refine And.intro ?_ ?_
    | omega)
theorem lcmp_lt {x y : Int} : lcmpv x y < 0 ↔ x < y := by unfold lcmpv; split <;> (try split) <;> omega
theorem lcmp_le {x y : Int} : lcmpv x y ≤ 0 ↔ x ≤ y := by unfold lcmpv; split <;> (try split) <;> omega
theorem lcmp_gt {x y : Int} : 0 < lcmpv x y ↔ y < x := by unfold lcmpv; split <;> (try split) <;> omega
theorem lcmp_ge {x y : Int} : 0 ≤ lcmpv x y ↔ y ≤ x := by unfold lcmpv; split <;> (try split) <;> omega
theorem lcmp_eq {x y : Int} : lcmpv x y = 0 ↔ x = y := by unfold lcmpv; split <;> (try split) <;> omega
theorem lcmp32 {x y : Int} : i32 (lcmpv x y) := by unfold lcmpv; split <;> (try split) <;> exact ⟨by decide, by decide⟩
theorem s_X12_bounded {d : Nat} {dd : List (Nat × Nat)} {sh : Nat → Nat → Nat} {g : Nat → Nat → Int} {K : Int → (Nat → Nat → Int) → Prop} {v0 v2 v3 : Int} (h0 : i64 v0) (h1 : i32 v2) (h2 : i32 v3) (h12 : v2 ≤ v3) (hK : ∀ r, r = min (max v0 v2) v3 → K r g) : cI (d + 1) m_X12_bounded [(vL v0), (vI v2), (vI v3)] dd sh g K := by
  refine mkI (ls := [some (vL v0), none, some (vI v2), some (vI v3)]) rfl rfl rfl rfl rfl (r_X12_bounded_0 ?_)
  simp only [lcmp_lt, lcmp_le, lcmp_gt, lcmp_ge]
  repeat' (first
    | (refine imp_mk ?_; intro hh; first | contradiction | (exfalso; omega) | skip)
    | (exact lcmp32)
    | (exact hK _ (by omega))
    | refine And.intro ?_ ?_
    | omega)
theorem s_X12_size {d : Nat} {dd : List (Nat × Nat)} {sh : Nat → Nat → Nat} {g : Nat → Nat → Int} {K : Int → (Nat → Nat → Int) → Prop} {v0 : Int} (h0 : i32 v0) (hK : ∀ r, 0 ≤ r → (r = v0 ∨ r = -v0) → K r g) : cI (d + 1) m_X12_size [(vI v0)] dd sh g K := by
  refine mkI (ls := [some (vI v0)]) rfl rfl rfl rfl rfl (r_X12_size_0 ?_)
  repeat' (first
    | (refine imp_mk ?_; intro hh; first | contradiction | (exfalso; omega) | skip)
    | (exact hK _ (by omega) (by omega))
    | refine And.intro ?_ ?_
    | omega)
theorem s_J9_abs {d : Nat} {dd : List (Nat × Nat)} {sh : Nat → Nat → Nat} {g : Nat → Nat → Int} {K : Int → (Nat → Nat → Int) → Prop} {v0 : Int} (h0 : i32 v0) (hK : ∀ r, 0 ≤ r → (r = v0 ∨ r = -v0) → K r g) : cI (d + 1) m_J9_abs_0f7a4 [(vI v0)] dd sh g K := by
  refine mkI (ls := [some (vI v0)]) rfl rfl rfl rfl rfl (r_J9_abs_0f7a4_0 ?_)
  repeat' (first
    | (refine imp_mk ?_; intro hh; first | contradiction | (exfalso; omega) | skip)
    | (exact hK _ (by omega) (by omega))
    | refine And.intro ?_ ?_
    | omega)
theorem s_J9_max {d : Nat} {dd : List (Nat × Nat)} {sh : Nat → Nat → Nat} {g : Nat → Nat → Int} {K : Int → (Nat → Nat → Int) → Prop} {v0 v1 : Int} (h0 : i32 v0) (h1 : i32 v1) (hK : ∀ r, r = max v0 v1 → K r g) : cI (d + 1) m_J9_max_7cf53 [(vI v0), (vI v1)] dd sh g K := by
  refine mkI (ls := [some (vI v0), some (vI v1)]) rfl rfl rfl rfl rfl (r_J9_max_7cf53_0 ?_)
  repeat' (first
    | (refine imp_mk ?_; intro hh; first | contradiction | (exfalso; omega) | skip)
    | (exact hK _ (by omega))
    | refine And.intro ?_ ?_
    | omega)
theorem s_J9_min {d : Nat} {dd : List (Nat × Nat)} {sh : Nat → Nat → Nat} {g : Nat → Nat → Int} {K : Int → (Nat → Nat → Int) → Prop} {v0 v1 : Int} (h0 : i32 v0) (h1 : i32 v1) (hK : ∀ r, r = min v0 v1 → K r g) : cI (d + 1) m_J9_min_7cf53 [(vI v0), (vI v1)] dd sh g K := by
  refine mkI (ls := [some (vI v0), some (vI v1)]) rfl rfl rfl rfl rfl (r_J9_min_7cf53_0 ?_)
  repeat' (first
    | (refine imp_mk ?_; intro hh; first | contradiction | (exfalso; omega) | skip)
    | (exact hK _ (by omega))
    | refine And.intro ?_ ?_
    | omega)
theorem ixor_ok : ∀ x : Nat, x < 100 → (0 ≤ ixor (x : Int) 40 ∧ ixor (x : Int) 40 < 1000) ∧ 0 ≤ ixor (x : Int) 30 ∧ ixor (x : Int) 30 < 1000 := by decide +kernel
theorem s_J9_floorMod {d : Nat} {dd : List (Nat × Nat)} {sh : Nat → Nat → Nat} {g : Nat → Nat → Int} {K : Int → (Nat → Nat → Int) → Prop} {v0 v1 : Int} (h0 : 0 ≤ v0) (h0' : v0 < 100) (h1 : v1 = 40 ∨ v1 = 30) (hK : ∀ r, r = v0 % v1 → 0 ≤ r → r < v1 → K r g) : cI (d + 1) m_J9_floorMod_7cf53 [(vI v0), (vI v1)] dd sh g K := by
  refine mkI (ls := [some (vI v0), some (vI v1), none]) rfl rfl rfl rfl rfl (r_J9_floorMod_7cf53_0 ?_)
  obtain ⟨n, rfl⟩ := Int.eq_ofNat_of_zero_le h0
  have hx := ixor_ok n (by omega)
  have e : ((n : Int)).tmod v1 = (n : Int) % v1 := Int.tmod_eq_emod_of_nonneg h0
  rw [e]
  rcases h1 with rfl | rfl
  · repeat' (first
      | (refine imp_mk ?_; intro hh; first | contradiction | (exfalso; omega) | skip)
      | (exact hK _ rfl (by omega) (by omega))
      | refine And.intro ?_ ?_
      | omega)
  · repeat' (first
      | (refine imp_mk ?_; intro hh; first | contradiction | (exfalso; omega) | skip)
      | (exact hK _ rfl (by omega) (by omega))
      | refine And.intro ?_ ?_
      | omega)
theorem s_X11_isSet {d : Nat} {dd : List (Nat × Nat)} {sh : Nat → Nat → Nat} {g : Nat → Nat → Int} {K : Int → (Nat → Nat → Int) → Prop} {v0 v1 : Int} (h0 : i32 v0) (h1 : 0 ≤ v1) (h1' : v1 ≤ 20) (hK : 1 ≤ v0 → v0 < 2 ^ v1.toNat → K 1 g) (hK0 : (v0 ≤ 0 ∨ 2 ^ v1.toNat ≤ v0) → K 0 g) : cI (d + 1) m_X11_isSet [(vI v0), (vI v1)] dd sh g K := by
  refine mkI (ls := [some (vI v0), some (vI v1)]) rfl rfl rfl rfl rfl (r_X11_isSet_0 ?_)
  rw [Int.one_mul]
  have hp : (0 : Int) < 2 ^ v1.toNat := Int.pow_pos (by decide)
  have hp2 : (2 : Int) ^ v1.toNat ≤ 2 ^ 20 := pow2_le (by omega)
  repeat' (first
    | (refine imp_mk ?_; intro hh; first | contradiction | (exfalso; omega) | skip)
    | (exact hK (by omega) (by omega))
    | (exact hK0 (by omega))
    | refine And.intro ?_ ?_
    | omega)
theorem s_X11_swap {d : Nat} {dd : List (Nat × Nat)} {sh : Nat → Nat → Nat} {g : Nat → Nat → Int} {K : (Nat → Nat → Int) → Prop} {p0 : Nat} {v1 v2 : Int} {n : Nat} (hp : p0 ≠ 0) (hT : (T0 ++ dyn dd)[p0]? = some (0, n)) (h1 : 0 ≤ v1) (h1' : v1 < n) (h2 : 0 ≤ v2) (h2' : v2 < n) (hK : K (up (up g p0 v1.toNat (g p0 v2.toNat)) p0 v2.toNat (g p0 v1.toNat))) : cV (d + 1) m_X11_swap [(vR p0), (vI v1), (vI v2)] dd sh g K := by
  refine mkV (ls := [some (vR p0), some (vI v1), some (vI v2), none]) rfl rfl rfl rfl rfl (r_X11_swap_0 ?_)
  rw [lenT hT]
  exact ⟨arT hp hT, h1, h1', h2, h2', hK⟩
theorem s_X11_copyRow {d : Nat} {dd : List (Nat × Nat)} {sh : Nat → Nat → Nat} {g : Nat → Nat → Int} {K : (Nat → Nat → Int) → Prop} {p0 p1 n m : Nat} (hp : p0 ≠ 0) (hq : p1 ≠ 0) (hpq : p0 ≠ p1) (h1 : (T0 ++ dyn dd)[p0]? = some (0, n)) (h2 : (T0 ++ dyn dd)[p1]? = some (0, m)) (hn : n ≤ 100000) (hm : m ≤ 100000) (hK : K (cpy g p0 p1 (min n m))) : cV (d + 1) m_X11_copyRow [(vR p0), (vR p1)] dd sh g K := by
  refine mkV (ls := [some (vR p0), some (vR p1), none]) rfl rfl rfl rfl rfl (r_X11_copyRow_0 ?_)
  have e : cpy g p0 p1 0 = g := by
    funext a i; unfold cpy; simp
  have := loop (P := fun k => rV d m_X11_copyRow 2 [some (vR p0), some (vR p1), some (vI ((k : Int)))] [] dd sh (cpy g p0 p1 k) K) (n := min n m) ?_ ?_ 0 (by omega)
  · rw [e] at this
    exact this
  · refine r_X11_copyRow_2 ?_
    rw [lenT h1, lenT h2]
    repeat' (first
      | (refine imp_mk ?_; intro hh; first | contradiction | (exfalso; omega) | skip)
      | (exact arT hp h1)
      | (exact arT hq h2)
      | (exact hK)
      | refine And.intro ?_ ?_
      | omega)
  · intro k hk ih
    refine r_X11_copyRow_2 ?_
    rw [lenT h1, lenT h2, show ((k : Int)).toNat = k from rfl, cpy_step hpq]
    repeat' (first
      | (refine imp_mk ?_; intro hh; first | contradiction | (exfalso; omega) | skip)
      | (exact arT hp h1)
      | (exact arT hq h2)
      | (exact ih)
      | refine And.intro ?_ ?_
      | omega)
theorem s_X11_power {d : Nat} {dd : List (Nat × Nat)} {sh : Nat → Nat → Nat} {g : Nat → Nat → Int} {K : Int → (Nat → Nat → Int) → Prop} {v0 v2 : Int} (h2 : 0 ≤ v2) (h2' : v2 ≤ 100) (hK : K (pw v0 v2.toNat) g) : cL (d + 1) m_X11_power [(vL v0), (vI v2)] dd sh g K := by
  obtain ⟨n, rfl⟩ := Int.eq_ofNat_of_zero_le h2
  refine mkL (ls := [some (vL v0), none, some (vI ((n : Int))), none, none, none]) rfl rfl rfl rfl rfl (r_X11_power_0 ?_)
  refine loop (P := fun k => rL d m_X11_power 5 [some (vL v0), none, some (vI ((n : Int))), some (vL (pw v0 k)), none, some (vI ((k : Int)))] [] dd sh g K) (n := n) ?_ ?_ 0 (by omega)
  · refine r_X11_power_5 ?_
    repeat' (first
      | (refine imp_mk ?_; intro hh; first | contradiction | (exfalso; omega) | skip)
      | (exact hK)
      | refine And.intro ?_ ?_
      | omega)
  · intro k hk ih
    refine r_X11_power_5 ?_
    rw [show pw v0 k * v0 = pw v0 (k + 1) from rfl]
    repeat' (first
      | (refine imp_mk ?_; intro hh; first | contradiction | (exfalso; omega) | skip)
      | (exact ih)
      | refine And.intro ?_ ?_
      | omega)
theorem s_X12_tens {d : Nat} {dd : List (Nat × Nat)} {sh : Nat → Nat → Nat} {g : Nat → Nat → Int} {K : Int → (Nat → Nat → Int) → Prop} {v0 : Int} (h2 : 0 ≤ v0) (h2' : v0 ≤ 100) (hK : K (pw 10 v0.toNat) g) : cL (d + 1) m_X12_tens [(vI v0)] dd sh g K := by
  obtain ⟨n, rfl⟩ := Int.eq_ofNat_of_zero_le h2
  refine mkL (ls := [some (vI ((n : Int))), none, none, none]) rfl rfl rfl rfl rfl (r_X12_tens_0 ?_)
  refine loop (P := fun k => rL d m_X12_tens 4 [some (vI ((n : Int))), some (vL (pw 10 k)), none, some (vI ((k : Int)))] [] dd sh g K) (n := n) ?_ ?_ 0 (by omega)
  · refine r_X12_tens_4 ?_
    repeat' (first
      | (refine imp_mk ?_; intro hh; first | contradiction | (exfalso; omega) | skip)
      | (exact hK)
      | refine And.intro ?_ ?_
      | omega)
  · intro k hk ih
    refine r_X12_tens_4 ?_
    rw [show pw 10 k * 10 = pw 10 (k + 1) from rfl]
    repeat' (first
      | (refine imp_mk ?_; intro hh; first | contradiction | (exfalso; omega) | skip)
      | (exact ih)
      | refine And.intro ?_ ?_
      | omega)
/-- a fraction in lowest terms -/
def prt (x y : Nat) (low : Int) : Int := if y = 0 then low else (((if low = 0 then x else y) / Nat.gcd x y : Nat) : Int)
theorem eu_step {x y f : Nat} (h : y ≤ x) (h2 : x * y < 2 ^ (f + 1)) (h3 : y ≠ 0) : x % y ≤ y ∧ y * (x % y) < 2 ^ f := by
  have h4 : x % y < y := Nat.mod_lt _ (by omega)
  have h5 : 2 * (x % y) ≤ x := by
    have := Nat.div_add_mod x y
    have : 1 ≤ x / y := Nat.div_pos h (by omega)
    have : y * 1 ≤ y * (x / y) := Nat.mul_le_mul_left y this
    omega
  have h6 : y * (2 * (x % y)) ≤ y * x := Nat.mul_le_mul_left y h5
  rw [Nat.mul_left_comm, Nat.mul_comm y x] at h6
  rw [Nat.pow_succ] at h2
  omega
theorem eu_zero {x y : Nat} (h : y ≤ x) (h2 : x * y < 2 ^ 0) : y = 0 := by
  rcases Nat.eq_zero_or_pos y with h3 | h3
  · exact h3
  · have := Nat.mul_le_mul (show 1 ≤ x by omega) h3
    omega
theorem tmodN (x y : Nat) : ((x : Int)).tmod (y : Int) = ((x % y : Nat) : Int) := rfl
theorem tdivN (x y : Nat) : ((x : Int)).tdiv (y : Int) = ((x / y : Nat) : Int) := rfl
theorem gcd_swap (x y : Nat) : Nat.gcd y (x % y) = Nat.gcd x y := by rw [Nat.gcd_comm x y, Nat.gcd_rec y x, Nat.gcd_comm]
theorem s_X11_lowestTerms_26 {d : Nat} {dd : List (Nat × Nat)} {sh : Nat → Nat → Nat} {g : Nat → Nat → Int} {K : Int → (Nat → Nat → Int) → Prop} {v4 : Int} {a b : Nat} (ha : a < 2 ^ 62) (hb : b < 2 ^ 62) (hb0 : b ≠ 0) (h4 : v4 = 0 ∨ v4 = 1) (hK : K (prt a b v4) g) :
    ∀ (f x y : Nat) (v9 : Int), y ≤ x → 0 < x → x < 2 ^ 62 → x * y < 2 ^ f → 0 ≤ v9 → v9 + f < 200 → Nat.gcd x y = Nat.gcd a b →
      rL d m_X11_lowestTerms 26 [some (vL ((a : Int))), none, some (vL ((b : Int))), none, some (vI v4), some (vL ((x : Int))), none, some (vL ((y : Int))), none, some (vI v9), none, none] [] dd sh g K := by
  intro f
  induction f with
  | zero =>
    intro x y v9 h h0 hx h2 h9 h9' hg
    have hy := eu_zero h h2
    subst hy
    rw [Nat.gcd_zero_right] at hg
    refine r_X11_lowestTerms_26 ?_
    simp only [lcmp_eq, tdivN]
    have hp : K (prt a b v4) g := hK
    unfold prt at hp
    rw [if_neg hb0, ← hg] at hp
    rcases h4 with rfl | rfl
    · rw [if_pos rfl] at hp
      repeat' (first
        | (refine imp_mk ?_; intro hh; first | contradiction | (exfalso; omega) | skip)
        | (exact lcmp32)
        | (exact hp)
        | refine And.intro ?_ ?_
        | omega)
    · rw [if_neg (by decide)] at hp
      repeat' (first
        | (refine imp_mk ?_; intro hh; first | contradiction | (exfalso; omega) | skip)
        | (exact lcmp32)
        | (exact hp)
        | refine And.intro ?_ ?_
        | omega)
  | succ f ih =>
    intro x y v9 h h0 hx h2 h9 h9' hg
    by_cases hy : y = 0
    · subst hy
      rw [Nat.gcd_zero_right] at hg
      refine r_X11_lowestTerms_26 ?_
      simp only [lcmp_eq, tdivN]
      have hp : K (prt a b v4) g := hK
      unfold prt at hp
      rw [if_neg hb0, ← hg] at hp
      rcases h4 with rfl | rfl
      · rw [if_pos rfl] at hp
        repeat' (first
          | (refine imp_mk ?_; intro hh; first | contradiction | (exfalso; omega) | skip)
          | (exact lcmp32)
          | (exact hp)
          | refine And.intro ?_ ?_
          | omega)
      · rw [if_neg (by decide)] at hp
        repeat' (first
          | (refine imp_mk ?_; intro hh; first | contradiction | (exfalso; omega) | skip)
          | (exact lcmp32)
          | (exact hp)
          | refine And.intro ?_ ?_
          | omega)
    · obtain ⟨s1, s2⟩ := eu_step h h2 hy
      have hn := ih y (x % y) (v9 + 1) s1 (by omega) (by omega) s2 (by omega) (by omega) (by rw [gcd_swap, hg])
      refine r_X11_lowestTerms_26 ?_
      simp only [lcmp_eq, tdivN, tmodN]
      repeat' (first
        | (refine imp_mk ?_; intro hh; first | contradiction | (exfalso; omega) | skip)
        | (exact lcmp32)
        | (exact hn)
        | refine And.intro ?_ ?_
        | omega)
theorem pow_prod {x y : Nat} (hx : x < 2 ^ 62) (hy : y < 2 ^ 62) : x * y < 2 ^ 124 := by
  have h1 : x * y ≤ x * 2 ^ 62 := Nat.mul_le_mul_left x (Nat.le_of_lt hy)
  have h2 : x * 2 ^ 62 < 2 ^ 62 * 2 ^ 62 := Nat.mul_lt_mul_of_pos_right hx (by decide)
  rw [← Nat.pow_add] at h2
  omega
theorem s_X11_lowestTerms {d : Nat} {dd : List (Nat × Nat)} {sh : Nat → Nat → Nat} {g : Nat → Nat → Int} {K : Int → (Nat → Nat → Int) → Prop} {a b : Nat} {v4 : Int} (ha : a < 2 ^ 62) (hb : b < 2 ^ 62) (h4 : v4 = 0 ∨ v4 = 1) (hK : K (prt a b v4) g) : cL (d + 1) m_X11_lowestTerms [(vL (a : Int)), (vL (b : Int)), (vI v4)] dd sh g K := by
  refine mkL (ls := [some (vL ((a : Int))), none, some (vL ((b : Int))), none, some (vI v4), none, none, none, none, none, none, none]) rfl rfl rfl rfl rfl (r_X11_lowestTerms_0 ?_)
  simp only [lcmp_gt, lcmp_le]
  by_cases hb0 : b = 0
  · subst hb0
    have hp : K v4 g := by
      have hp := hK
      unfold prt at hp
      rw [if_pos rfl] at hp
      exact hp
    rcases h4 with rfl | rfl
    · repeat' (first
        | (refine imp_mk ?_; intro hh; first | contradiction | (exfalso; omega) | skip)
        | (exact lcmp32)
        | (exact hp)
        | refine And.intro ?_ ?_
        | omega)
    · repeat' (first
        | (refine imp_mk ?_; intro hh; first | contradiction | (exfalso; omega) | skip)
        | (exact lcmp32)
        | (exact hp)
        | refine And.intro ?_ ?_
        | omega)
  · have hm : rL d m_X11_lowestTerms 26 [some (vL ((a : Int))), none, some (vL ((b : Int))), none, some (vI v4), some (vL ((b : Int))), none, some (vL ((a : Int))), none, some (vI 0), none, none] [] dd sh g K := by
      by_cases hab : a ≤ b
      · exact s_X11_lowestTerms_26 ha hb hb0 h4 hK 124 b a 0 hab (by omega) hb (pow_prod hb ha) (by omega) (by omega) (Nat.gcd_comm _ _)
      · have hn := s_X11_lowestTerms_26 (d := d) (dd := dd) (sh := sh) ha hb hb0 h4 hK 124 a b (0 + 1) (by omega) (by omega) ha (pow_prod ha hb) (by omega) (by omega) rfl
        refine r_X11_lowestTerms_26 ?_
        have e : b % a = b := Nat.mod_eq_of_lt (by omega)
        simp only [lcmp_eq, tdivN, tmodN, e]
        repeat' (first
          | (refine imp_mk ?_; intro hh; first | contradiction | (exfalso; omega) | skip)
          | (exact lcmp32)
          | (exact hn)
          | refine And.intro ?_ ?_
          | omega)
    repeat' (first
      | (refine imp_mk ?_; intro hh; first | contradiction | (exfalso; omega) | skip)
      | (exact lcmp32)
      | (exact hm)
      | refine And.intro ?_ ?_
      | omega)
theorem s_X12_common {d : Nat} {dd : List (Nat × Nat)} {sh : Nat → Nat → Nat} {g : Nat → Nat → Int} {K : Int → (Nat → Nat → Int) → Prop} {a b : Nat} (ha : a < 2 ^ 62) (hb : b < 2 ^ 62) (hK : K (Nat.gcd a b : Int) g) : cL (d + 1) m_X12_common [(vL (a : Int)), (vL (b : Int))] dd sh g K := by
  refine mkL (ls := [some (vL ((a : Int))), none, some (vL ((b : Int))), none, none, none, none, none, none, none]) rfl rfl rfl rfl rfl (r_X12_common_0 ?_)
  have hm : ∀ (y x : Nat), x < 2 ^ 62 → y < 2 ^ 62 → Nat.gcd x y = Nat.gcd a b → rL d m_X12_common 17 [none, none, none, none, some (vL ((x : Int))), none, some (vL ((y : Int))), none, none, none] [] dd sh g K := by
    intro y
    induction y using Nat.strongRecOn with
    | ind y ih =>
      intro x hx hy hg
      refine r_X12_common_17 ?_
      by_cases h0 : y = 0
      · subst h0
        rw [Nat.gcd_zero_right] at hg
        rw [← hg] at hK
        simp only [lcmp_eq]
        repeat' (first
          | (refine imp_mk ?_; intro hh; first | contradiction | (exfalso; omega) | skip)
          | (exact lcmp32)
          | (exact hK)
          | refine And.intro ?_ ?_
          | omega)
      · have h4 : x % y < y := Nat.mod_lt _ (by omega)
        have hn := ih (x % y) h4 y hy (by omega) (by rw [gcd_swap, hg])
        simp only [lcmp_eq, tmodN]
        repeat' (first
          | (refine imp_mk ?_; intro hh; first | contradiction | (exfalso; omega) | skip)
          | (exact lcmp32)
          | (exact hn)
          | refine And.intro ?_ ?_
          | omega)
  have hn := hm b a ha hb rfl
  simp only [lcmp_ge, lcmp_lt]
  repeat' (first
    | (refine imp_mk ?_; intro hh; first | contradiction | (exfalso; omega) | skip)
    | (exact lcmp32)
    | (exact hn)
    | refine And.intro ?_ ?_
    | omega)
theorem s_X12_part {d : Nat} {dd : List (Nat × Nat)} {sh : Nat → Nat → Nat} {g : Nat → Nat → Int} {K : Int → (Nat → Nat → Int) → Prop} {a b : Nat} {v4 : Int} (ha : a < 2 ^ 62) (hb : b < 2 ^ 62) (h4 : v4 = 0 ∨ v4 = 1) (hK : K (prt a b v4) g) : cL (d + 2) m_X12_part [(vL (a : Int)), (vL (b : Int)), (vI v4)] dd sh g K := by
  refine mkL (ls := [some (vL ((a : Int))), none, some (vL ((b : Int))), none, some (vI v4)]) rfl rfl rfl rfl rfl (r_X12_part_0 ?_)
  simp only [lcmp_eq]
  have hp := hK
  unfold prt at hp
  by_cases hb0 : b = 0
  · subst hb0
    rw [if_pos rfl] at hp
    rcases h4 with rfl | rfl
    · repeat' (first
        | (refine imp_mk ?_; intro hh; first | contradiction | (exfalso; omega) | skip)
        | (exact lcmp32)
        | (exact hp)
        | refine And.intro ?_ ?_
        | omega)
    · repeat' (first
        | (refine imp_mk ?_; intro hh; first | contradiction | (exfalso; omega) | skip)
        | (exact lcmp32)
        | (exact hp)
        | refine And.intro ?_ ?_
        | omega)
  · rw [if_neg hb0] at hp
    have hg : 0 < Nat.gcd a b := Nat.gcd_pos_of_pos_right a (by omega)
    have hg2 : Nat.gcd a b ≤ b := Nat.gcd_le_right a (by omega)
    rcases h4 with rfl | rfl
    · rw [if_pos rfl] at hp
      repeat' (first
        | (refine imp_mk ?_; intro hh; first | contradiction | (exfalso; omega) | skip)
        | (exact lcmp32)
        | (refine s_X12_common ha hb ?_; rw [tdivN])
        | (exact hp)
        | refine And.intro ?_ ?_
        | omega)
    · rw [if_neg (by decide)] at hp
      repeat' (first
        | (refine imp_mk ?_; intro hh; first | contradiction | (exfalso; omega) | skip)
        | (exact lcmp32)
        | (refine s_X12_common ha hb ?_; rw [tdivN])
        | (exact hp)
        | refine And.intro ?_ ?_
        | omega)
