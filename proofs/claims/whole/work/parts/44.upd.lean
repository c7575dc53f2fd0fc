-- what a change of cells does to the invariant's parts
theorem two_pow_cast (n : Nat) : ((2 ^ n : Nat) : Int) = (2 : Int) ^ n := by
  induction n with
  | zero => rfl
  | succ n ih => rw [Nat.pow_succ, Int.pow_succ, ← ih]; omega
theorem bt_nat (x p : Nat) : bt (x : Int) p = ((x / 2 ^ p % 2 : Nat) : Int) := by
  unfold bt
  rw [← two_pow_cast]
  rfl
theorem ixor_nat {x y : Nat} (hx : x < 1073741824) (hy : y < 1073741824) : ixor (x : Int) (y : Int) = ((x ^^^ y : Nat) : Int) := by
  have hz : x ^^^ y < 2 ^ 30 := Nat.xor_lt_two_pow hx hy
  unfold ixor
  rw [← Int32.toInt_toBitVec, Int32.toBitVec_xor, Int32.toBitVec_ofInt, Int32.toBitVec_ofInt, BitVec.ofInt_natCast, BitVec.ofInt_natCast]
  have e : (BitVec.ofNat 32 x ^^^ BitVec.ofNat 32 y).toNat = x ^^^ y := by
    rw [BitVec.toNat_xor, BitVec.toNat_ofNat, BitVec.toNat_ofNat, Nat.mod_eq_of_lt (by omega), Nat.mod_eq_of_lt (by omega)]
  rw [BitVec.toInt_eq_toNat_of_lt (by rw [e]; omega), e]
theorem or_dec : ∀ x : Nat, x < 128 → ∀ n : Nat, n < 7 → x ||| 2 ^ n < 128 ∧ (x < 64 → n < 6 → x ||| 2 ^ n < 64) ∧ ∀ p : Nat, p < 7 → (x ||| 2 ^ n) / 2 ^ p % 2 = if p = n then 1 else x / 2 ^ p % 2 := by decide +kernel
theorem xor_dec : ∀ x : Nat, x < 128 → ∀ n : Nat, n < 7 → x ^^^ 2 ^ n < 128 ∧ (x < 64 → n < 6 → x ^^^ 2 ^ n < 64) ∧ ∀ p : Nat, p < 7 → (x ^^^ 2 ^ n) / 2 ^ p % 2 = if p = n then 1 - x / 2 ^ p % 2 else x / 2 ^ p % 2 := by decide +kernel
theorem pow_small {n : Nat} (h : n < 7) : 2 ^ n < 128 := by
  have : 2 ^ n ≤ 2 ^ 6 := Nat.pow_le_pow_right (by decide) (by omega)
  omega
theorem ior_bt {x : Int} {n : Nat} (h0 : 0 ≤ x) (h1 : x < 128) (hn : n < 7) : 0 ≤ ior x ((1 : Int) * 2 ^ n) ∧ ior x ((1 : Int) * 2 ^ n) < 128 ∧ (x < 64 → n < 6 → ior x ((1 : Int) * 2 ^ n) < 64) ∧ ∀ p : Nat, p < 7 → bt (ior x ((1 : Int) * 2 ^ n)) p = if p = n then 1 else bt x p := by
  obtain ⟨m, rfl⟩ := Int.eq_ofNat_of_zero_le h0
  have hp := pow_small hn
  rw [Int.one_mul, ← two_pow_cast, ior_nat (by omega) (by omega)]
  obtain ⟨d1, d2, d3⟩ := or_dec m (by omega) n hn
  refine ⟨by omega, by omega, fun a b => by have := d2 (by omega) b; omega, fun p hp => ?_⟩
  rw [bt_nat, bt_nat, d3 p hp]
  split <;> rfl
theorem ixor_bt {x : Int} {n : Nat} (h0 : 0 ≤ x) (h1 : x < 128) (hn : n < 7) : 0 ≤ ixor x ((1 : Int) * 2 ^ n) ∧ ixor x ((1 : Int) * 2 ^ n) < 128 ∧ (x < 64 → n < 6 → ixor x ((1 : Int) * 2 ^ n) < 64) ∧ ∀ p : Nat, p < 7 → bt (ixor x ((1 : Int) * 2 ^ n)) p = if p = n then 1 - bt x p else bt x p := by
  obtain ⟨m, rfl⟩ := Int.eq_ofNat_of_zero_le h0
  have hp := pow_small hn
  rw [Int.one_mul, ← two_pow_cast, ixor_nat (by omega) (by omega)]
  obtain ⟨d1, d2, d3⟩ := xor_dec m (by omega) n hn
  refine ⟨by omega, by omega, fun a b => by have := d2 (by omega) b; omega, fun p hp => ?_⟩
  rw [bt_nat, bt_nat, d3 p hp]
  split <;> omega
section UPD
variable {w rk sz l0 l1 l2 l3 a b s nv se ts ha he le bk h w' rk' sz' s' nv' se' ts' ha' he' le' bk' h' : Nat → Int} {row : Nat → Nat → Int}
theorem RH.by_ {v : Int} (H : RH h row a) (e : ∀ k, k ≠ 7 → h' k = h k) (e7 : h' 7 = v) (hv : -1 ≤ v ∧ v < a 2) (eb : ∀ k, k ≠ 3 → b k = a k) (e3 : b 3 = v) : RH h' row b := by
  have H2 : RH h row (fun k => if k = 3 then a 3 else b k) := H.fr (fun k hk => by
    by_cases h3 : k = 3
    · simp [h3]
    · simp [h3, eb k h3]) (by simp [eb 0]) (by simp [eb 1])
  have h4 := H.st
  refine ⟨?_, ?_, ?_, ?_, fun j hj => ?_⟩
  · rw [e 4 (by omega), eb 4 (by omega)]; exact H.st
  · rw [e 3 (by omega)]; exact H.el
  · rw [e 6 (by omega), eb 2 (by omega)]; exact H.tx
  · rw [e7, e3, eb 2 (by omega)]; exact ⟨rfl, hv⟩
  · rw [e 3 (by omega)]
    rw [eb 4 (by omega)] at hj
    exact (H.rt j hj).fr (fun k _ _ => eb k (by omega)) (by rw [eb 0 (by omega)]; omega) (by rw [eb 1 (by omega)]; omega)
theorem RN.weight {n : Nat} {v : Int} (H : RN w rk sz l0 l1 l2 l3 a) (hn : n < 6) (hq : (n : Int) < a 0) (hv : 0 ≤ v ∧ v ≤ 99) (e : ∀ k, k ≠ n → w' k = w k) (en : w' n = v) (eb : ∀ k, k ≠ 22 + 7 * n → b k = a k) (ebn : b (22 + 7 * n) = v) : RN w' rk sz l0 l1 l2 l3 b := by
  unfold RN
  rw [eb 0 (by omega), eb 1 (by omega), eb 5 (by omega), eb 6 (by omega), eb 7 (by omega), eb 8 (by omega)]
  refine ⟨fun p hp => ?_, fun k hk => ?_, H.s0, H.s1, H.s2, H.s3, fun k hk => ?_, fun k hk => ?_, fun k hk => ?_, fun k hk => ?_⟩
  · by_cases hpn : p = n
    · subst hpn
      rw [en, ebn]
      exact ⟨fun _ => rfl, fun h9 => absurd hq (by omega), hv⟩
    · rw [e p hpn, eb (22 + 7 * p) (by omega)]; exact H.ww p hp
  · rw [eb (174 + k) (by omega)]; exact H.rk k hk
  · rw [eb (86 + 3 * k) (by omega), eb (87 + 3 * k) (by omega), eb (88 + 3 * k) (by omega)]; exact H.l0 k hk
  · rw [eb (110 + 2 * k) (by omega), eb (111 + 2 * k) (by omega)]; exact H.l1 k hk
  · rw [eb (126 + 3 * k) (by omega), eb (127 + 3 * k) (by omega), eb (128 + 3 * k) (by omega)]; exact H.l2 k hk
  · rw [eb (150 + 3 * k) (by omega), eb (151 + 3 * k) (by omega), eb (152 + 3 * k) (by omega)]; exact H.l3 k hk
theorem RN.risk {n : Nat} {v : Int} (H : RN w rk sz l0 l1 l2 l3 a) (hn : n < 9) (hv : 0 ≤ v ∧ v ≤ 10) (e : ∀ k, k ≠ n → rk' k = rk k) (en : rk' n = v) (eb : ∀ k, k ≠ 174 + n → b k = a k) (ebn : b (174 + n) = v) : RN w rk' sz l0 l1 l2 l3 b := by
  have q0 := H.s0
  have q1 := H.s1
  have q2 := H.s2
  have q3 := H.s3
  unfold RN
  rw [eb 0 (by omega), eb 1 (by omega), eb 5 (by omega), eb 6 (by omega), eb 7 (by omega), eb 8 (by omega)]
  refine ⟨fun p hp => ?_, fun k hk => ?_, H.s0, H.s1, H.s2, H.s3, fun k hk => ?_, fun k hk => ?_, fun k hk => ?_, fun k hk => ?_⟩
  · rw [eb (22 + 7 * p) (by omega)]; exact H.ww p hp
  · by_cases hpn : k = n
    · subst hpn
      rw [en, ebn]; exact ⟨rfl, hv⟩
    · rw [e k hpn, eb (174 + k) (by omega)]; exact H.rk k hk
  · rw [eb (86 + 3 * k) (by omega), eb (87 + 3 * k) (by omega), eb (88 + 3 * k) (by omega)]; exact H.l0 k hk
  · rw [eb (110 + 2 * k) (by omega), eb (111 + 2 * k) (by omega)]; exact H.l1 k hk
  · rw [eb (126 + 3 * k) (by omega), eb (127 + 3 * k) (by omega), eb (128 + 3 * k) (by omega)]; exact H.l2 k hk
  · rw [eb (150 + 3 * k) (by omega), eb (151 + 3 * k) (by omega), eb (152 + 3 * k) (by omega)]; exact H.l3 k hk
theorem RN.write0 {n : Nat} {x y z : Int} (H : RN w rk sz l0 l1 l2 l3 a) (hn : n < 8) (hs : a 5 = n) (hx : 0 ≤ x ∧ x < a 0) (hy : 0 ≤ y ∧ y < a 1) (hz : 0 ≤ z ∧ z ≤ 1)
    (es : ∀ k, k ≠ 0 → sz' k = sz k) (esn : sz' 0 = (n : Int) + 1) (el : ∀ k, k ≠ n → w' k = l0 k) (eln : w' n = (x * 16 + y) * 16 + z)
    (eb : ∀ k, k ≠ 5 → (k < 86 + 3 * n ∨ 88 + 3 * n < k) → b k = a k) (e5 : b 5 = (n : Int) + 1) (ex : b (86 + 3 * n) = x) (ey : b (87 + 3 * n) = y) (ez : b (88 + 3 * n) = z) : RN w rk sz' w' l1 l2 l3 b := by
  have q0 := H.s0
  have q1 := H.s1
  have q2 := H.s2
  have q3 := H.s3
  unfold RN
  rw [eb 0 (by omega) (by omega), eb 1 (by omega) (by omega), eb 6 (by omega) (by omega), eb 7 (by omega) (by omega), eb 8 (by omega) (by omega)]
  refine ⟨?_, ?_, ?_, ?_, ?_, ?_, ?_, ?_, ?_, ?_⟩
  · intro p hp; rw [eb (22 + 7 * p) (by omega) (by omega)]; exact H.ww p hp
  · intro k hk; rw [eb (174 + k) (by omega) (by omega)]; exact H.rk k hk
  · rw [esn, e5]; omega
  · rw [es 1 (by omega)]; exact H.s1
  · rw [es 2 (by omega)]; exact H.s2
  · rw [es 3 (by omega)]; exact H.s3
  · intro k hk
    rw [e5] at hk
    by_cases hkn : k = n
    · subst hkn
      rw [eln, ex, ey, ez]; exact ⟨rfl, hx, hy, hz⟩
    · rw [el k hkn, eb (86 + 3 * k) (by omega) (by omega), eb (87 + 3 * k) (by omega) (by omega), eb (88 + 3 * k) (by omega) (by omega)]; exact H.l0 k (by omega)
  · intro k hk; rw [eb (110 + 2 * k) (by omega) (by omega), eb (111 + 2 * k) (by omega) (by omega)]; exact H.l1 k hk
  · intro k hk; rw [eb (126 + 3 * k) (by omega) (by omega), eb (127 + 3 * k) (by omega) (by omega), eb (128 + 3 * k) (by omega) (by omega)]; exact H.l2 k hk
  · intro k hk; rw [eb (150 + 3 * k) (by omega) (by omega), eb (151 + 3 * k) (by omega) (by omega), eb (152 + 3 * k) (by omega) (by omega)]; exact H.l3 k hk
theorem RN.forget0 (H : RN w rk sz l0 l1 l2 l3 a) (es : ∀ k, k ≠ 0 → sz' k = sz k) (esn : sz' 0 = 0) (eb : ∀ k, k ≠ 5 → b k = a k) (e5 : b 5 = 0) : RN w rk sz' l0 l1 l2 l3 b := by
  have q0 := H.s0
  have q1 := H.s1
  have q2 := H.s2
  have q3 := H.s3
  unfold RN
  rw [eb 0 (by omega), eb 1 (by omega), eb 6 (by omega), eb 7 (by omega), eb 8 (by omega)]
  refine ⟨?_, ?_, ?_, ?_, ?_, ?_, ?_, ?_, ?_, ?_⟩
  · intro p hp; rw [eb (22 + 7 * p) (by omega)]; exact H.ww p hp
  · intro k hk; rw [eb (174 + k) (by omega)]; exact H.rk k hk
  · rw [esn, e5]; omega
  · rw [es 1 (by omega)]; exact H.s1
  · rw [es 2 (by omega)]; exact H.s2
  · rw [es 3 (by omega)]; exact H.s3
  · intro k hk; rw [e5] at hk; exact absurd hk (by omega)
  · intro k hk; rw [eb (110 + 2 * k) (by omega), eb (111 + 2 * k) (by omega)]; exact H.l1 k hk
  · intro k hk; rw [eb (126 + 3 * k) (by omega), eb (127 + 3 * k) (by omega), eb (128 + 3 * k) (by omega)]; exact H.l2 k hk
  · intro k hk; rw [eb (150 + 3 * k) (by omega), eb (151 + 3 * k) (by omega), eb (152 + 3 * k) (by omega)]; exact H.l3 k hk
theorem RN.write1 {n : Nat} {x y : Int} (H : RN w rk sz l0 l1 l2 l3 a) (hn : n < 8) (hs : a 6 = n) (hx : 0 ≤ x ∧ x < a 1) (hy : 0 ≤ y ∧ y < a 1)
    (es : ∀ k, k ≠ 1 → sz' k = sz k) (esn : sz' 1 = (n : Int) + 1) (el : ∀ k, k ≠ n → w' k = l1 k) (eln : w' n = (x * 16 + y) * 16)
    (eb : ∀ k, k ≠ 6 → (k < 110 + 2 * n ∨ 111 + 2 * n < k) → b k = a k) (e5 : b 6 = (n : Int) + 1) (ex : b (110 + 2 * n) = x) (ey : b (111 + 2 * n) = y) : RN w rk sz' l0 w' l2 l3 b := by
  have q0 := H.s0
  have q1 := H.s1
  have q2 := H.s2
  have q3 := H.s3
  unfold RN
  rw [eb 0 (by omega) (by omega), eb 1 (by omega) (by omega), eb 5 (by omega) (by omega), eb 7 (by omega) (by omega), eb 8 (by omega) (by omega)]
  refine ⟨?_, ?_, ?_, ?_, ?_, ?_, ?_, ?_, ?_, ?_⟩
  · intro p hp; rw [eb (22 + 7 * p) (by omega) (by omega)]; exact H.ww p hp
  · intro k hk; rw [eb (174 + k) (by omega) (by omega)]; exact H.rk k hk
  · rw [es 0 (by omega)]; exact H.s0
  · rw [esn, e5]; omega
  · rw [es 2 (by omega)]; exact H.s2
  · rw [es 3 (by omega)]; exact H.s3
  · intro k hk; rw [eb (86 + 3 * k) (by omega) (by omega), eb (87 + 3 * k) (by omega) (by omega), eb (88 + 3 * k) (by omega) (by omega)]; exact H.l0 k hk
  · intro k hk
    rw [e5] at hk
    by_cases hkn : k = n
    · subst hkn
      rw [eln, ex, ey]; exact ⟨rfl, hx, hy⟩
    · rw [el k hkn, eb (110 + 2 * k) (by omega) (by omega), eb (111 + 2 * k) (by omega) (by omega)]; exact H.l1 k (by omega)
  · intro k hk; rw [eb (126 + 3 * k) (by omega) (by omega), eb (127 + 3 * k) (by omega) (by omega), eb (128 + 3 * k) (by omega) (by omega)]; exact H.l2 k hk
  · intro k hk; rw [eb (150 + 3 * k) (by omega) (by omega), eb (151 + 3 * k) (by omega) (by omega), eb (152 + 3 * k) (by omega) (by omega)]; exact H.l3 k hk
theorem RN.forget1 (H : RN w rk sz l0 l1 l2 l3 a) (es : ∀ k, k ≠ 1 → sz' k = sz k) (esn : sz' 1 = 0) (eb : ∀ k, k ≠ 6 → b k = a k) (e5 : b 6 = 0) : RN w rk sz' l0 l1 l2 l3 b := by
  have q0 := H.s0
  have q1 := H.s1
  have q2 := H.s2
  have q3 := H.s3
  unfold RN
  rw [eb 0 (by omega), eb 1 (by omega), eb 5 (by omega), eb 7 (by omega), eb 8 (by omega)]
  refine ⟨?_, ?_, ?_, ?_, ?_, ?_, ?_, ?_, ?_, ?_⟩
  · intro p hp; rw [eb (22 + 7 * p) (by omega)]; exact H.ww p hp
  · intro k hk; rw [eb (174 + k) (by omega)]; exact H.rk k hk
  · rw [es 0 (by omega)]; exact H.s0
  · rw [esn, e5]; omega
  · rw [es 2 (by omega)]; exact H.s2
  · rw [es 3 (by omega)]; exact H.s3
  · intro k hk; rw [eb (86 + 3 * k) (by omega), eb (87 + 3 * k) (by omega), eb (88 + 3 * k) (by omega)]; exact H.l0 k hk
  · intro k hk; rw [e5] at hk; exact absurd hk (by omega)
  · intro k hk; rw [eb (126 + 3 * k) (by omega), eb (127 + 3 * k) (by omega), eb (128 + 3 * k) (by omega)]; exact H.l2 k hk
  · intro k hk; rw [eb (150 + 3 * k) (by omega), eb (151 + 3 * k) (by omega), eb (152 + 3 * k) (by omega)]; exact H.l3 k hk
theorem RN.write2 {n : Nat} {x y z : Int} (H : RN w rk sz l0 l1 l2 l3 a) (hn : n < 8) (hs : a 7 = n) (hx : 0 ≤ x ∧ x < a 0) (hy : 0 ≤ y ∧ y ≤ 3) (hz : 0 ≤ z ∧ z ≤ 1)
    (es : ∀ k, k ≠ 2 → sz' k = sz k) (esn : sz' 2 = (n : Int) + 1) (el : ∀ k, k ≠ n → w' k = l2 k) (eln : w' n = (x * 16 + y) * 16 + z)
    (eb : ∀ k, k ≠ 7 → (k < 126 + 3 * n ∨ 128 + 3 * n < k) → b k = a k) (e5 : b 7 = (n : Int) + 1) (ex : b (126 + 3 * n) = x) (ey : b (127 + 3 * n) = y) (ez : b (128 + 3 * n) = z) : RN w rk sz' l0 l1 w' l3 b := by
  have q0 := H.s0
  have q1 := H.s1
  have q2 := H.s2
  have q3 := H.s3
  unfold RN
  rw [eb 0 (by omega) (by omega), eb 1 (by omega) (by omega), eb 5 (by omega) (by omega), eb 6 (by omega) (by omega), eb 8 (by omega) (by omega)]
  refine ⟨?_, ?_, ?_, ?_, ?_, ?_, ?_, ?_, ?_, ?_⟩
  · intro p hp; rw [eb (22 + 7 * p) (by omega) (by omega)]; exact H.ww p hp
  · intro k hk; rw [eb (174 + k) (by omega) (by omega)]; exact H.rk k hk
  · rw [es 0 (by omega)]; exact H.s0
  · rw [es 1 (by omega)]; exact H.s1
  · rw [esn, e5]; omega
  · rw [es 3 (by omega)]; exact H.s3
  · intro k hk; rw [eb (86 + 3 * k) (by omega) (by omega), eb (87 + 3 * k) (by omega) (by omega), eb (88 + 3 * k) (by omega) (by omega)]; exact H.l0 k hk
  · intro k hk; rw [eb (110 + 2 * k) (by omega) (by omega), eb (111 + 2 * k) (by omega) (by omega)]; exact H.l1 k hk
  · intro k hk
    rw [e5] at hk
    by_cases hkn : k = n
    · subst hkn
      rw [eln, ex, ey, ez]; exact ⟨rfl, hx, hy, hz⟩
    · rw [el k hkn, eb (126 + 3 * k) (by omega) (by omega), eb (127 + 3 * k) (by omega) (by omega), eb (128 + 3 * k) (by omega) (by omega)]; exact H.l2 k (by omega)
  · intro k hk; rw [eb (150 + 3 * k) (by omega) (by omega), eb (151 + 3 * k) (by omega) (by omega), eb (152 + 3 * k) (by omega) (by omega)]; exact H.l3 k hk
theorem RN.forget2 (H : RN w rk sz l0 l1 l2 l3 a) (es : ∀ k, k ≠ 2 → sz' k = sz k) (esn : sz' 2 = 0) (eb : ∀ k, k ≠ 7 → b k = a k) (e5 : b 7 = 0) : RN w rk sz' l0 l1 l2 l3 b := by
  have q0 := H.s0
  have q1 := H.s1
  have q2 := H.s2
  have q3 := H.s3
  unfold RN
  rw [eb 0 (by omega), eb 1 (by omega), eb 5 (by omega), eb 6 (by omega), eb 8 (by omega)]
  refine ⟨?_, ?_, ?_, ?_, ?_, ?_, ?_, ?_, ?_, ?_⟩
  · intro p hp; rw [eb (22 + 7 * p) (by omega)]; exact H.ww p hp
  · intro k hk; rw [eb (174 + k) (by omega)]; exact H.rk k hk
  · rw [es 0 (by omega)]; exact H.s0
  · rw [es 1 (by omega)]; exact H.s1
  · rw [esn, e5]; omega
  · rw [es 3 (by omega)]; exact H.s3
  · intro k hk; rw [eb (86 + 3 * k) (by omega), eb (87 + 3 * k) (by omega), eb (88 + 3 * k) (by omega)]; exact H.l0 k hk
  · intro k hk; rw [eb (110 + 2 * k) (by omega), eb (111 + 2 * k) (by omega)]; exact H.l1 k hk
  · intro k hk; rw [e5] at hk; exact absurd hk (by omega)
  · intro k hk; rw [eb (150 + 3 * k) (by omega), eb (151 + 3 * k) (by omega), eb (152 + 3 * k) (by omega)]; exact H.l3 k hk
theorem RN.write3 {n : Nat} {x y z : Int} (H : RN w rk sz l0 l1 l2 l3 a) (hn : n < 8) (hs : a 8 = n) (hx : 0 ≤ x ∧ x < a 0) (hy : 0 ≤ y ∧ y < a 1) (hz : 0 ≤ z ∧ z ≤ 10)
    (es : ∀ k, k ≠ 3 → sz' k = sz k) (esn : sz' 3 = (n : Int) + 1) (el : ∀ k, k ≠ n → w' k = l3 k) (eln : w' n = (x * 16 + y) * 16 + z)
    (eb : ∀ k, k ≠ 8 → (k < 150 + 3 * n ∨ 152 + 3 * n < k) → b k = a k) (e5 : b 8 = (n : Int) + 1) (ex : b (150 + 3 * n) = x) (ey : b (151 + 3 * n) = y) (ez : b (152 + 3 * n) = z) : RN w rk sz' l0 l1 l2 w' b := by
  have q0 := H.s0
  have q1 := H.s1
  have q2 := H.s2
  have q3 := H.s3
  unfold RN
  rw [eb 0 (by omega) (by omega), eb 1 (by omega) (by omega), eb 5 (by omega) (by omega), eb 6 (by omega) (by omega), eb 7 (by omega) (by omega)]
  refine ⟨?_, ?_, ?_, ?_, ?_, ?_, ?_, ?_, ?_, ?_⟩
  · intro p hp; rw [eb (22 + 7 * p) (by omega) (by omega)]; exact H.ww p hp
  · intro k hk; rw [eb (174 + k) (by omega) (by omega)]; exact H.rk k hk
  · rw [es 0 (by omega)]; exact H.s0
  · rw [es 1 (by omega)]; exact H.s1
  · rw [es 2 (by omega)]; exact H.s2
  · rw [esn, e5]; omega
  · intro k hk; rw [eb (86 + 3 * k) (by omega) (by omega), eb (87 + 3 * k) (by omega) (by omega), eb (88 + 3 * k) (by omega) (by omega)]; exact H.l0 k hk
  · intro k hk; rw [eb (110 + 2 * k) (by omega) (by omega), eb (111 + 2 * k) (by omega) (by omega)]; exact H.l1 k hk
  · intro k hk; rw [eb (126 + 3 * k) (by omega) (by omega), eb (127 + 3 * k) (by omega) (by omega), eb (128 + 3 * k) (by omega) (by omega)]; exact H.l2 k hk
  · intro k hk
    rw [e5] at hk
    by_cases hkn : k = n
    · subst hkn
      rw [eln, ex, ey, ez]; exact ⟨rfl, hx, hy, hz⟩
    · rw [el k hkn, eb (150 + 3 * k) (by omega) (by omega), eb (151 + 3 * k) (by omega) (by omega), eb (152 + 3 * k) (by omega) (by omega)]; exact H.l3 k (by omega)
theorem RN.forget3 (H : RN w rk sz l0 l1 l2 l3 a) (es : ∀ k, k ≠ 3 → sz' k = sz k) (esn : sz' 3 = 0) (eb : ∀ k, k ≠ 8 → b k = a k) (e5 : b 8 = 0) : RN w rk sz' l0 l1 l2 l3 b := by
  have q0 := H.s0
  have q1 := H.s1
  have q2 := H.s2
  have q3 := H.s3
  unfold RN
  rw [eb 0 (by omega), eb 1 (by omega), eb 5 (by omega), eb 6 (by omega), eb 7 (by omega)]
  refine ⟨?_, ?_, ?_, ?_, ?_, ?_, ?_, ?_, ?_, ?_⟩
  · intro p hp; rw [eb (22 + 7 * p) (by omega)]; exact H.ww p hp
  · intro k hk; rw [eb (174 + k) (by omega)]; exact H.rk k hk
  · rw [es 0 (by omega)]; exact H.s0
  · rw [es 1 (by omega)]; exact H.s1
  · rw [es 2 (by omega)]; exact H.s2
  · rw [esn, e5]; omega
  · intro k hk; rw [eb (86 + 3 * k) (by omega), eb (87 + 3 * k) (by omega), eb (88 + 3 * k) (by omega)]; exact H.l0 k hk
  · intro k hk; rw [eb (110 + 2 * k) (by omega), eb (111 + 2 * k) (by omega)]; exact H.l1 k hk
  · intro k hk; rw [eb (126 + 3 * k) (by omega), eb (127 + 3 * k) (by omega), eb (128 + 3 * k) (by omega)]; exact H.l2 k hk
  · intro k hk; rw [e5] at hk; exact absurd hk (by omega)
theorem RS.scene {n : Nat} {x y : Int} (H : RS s nv se ts ha he le bk a) (hn : n < 7) (hq : a 1 = n) (hx : 0 ≤ x ∧ x ≤ 9) (hy : 0 ≤ y ∧ y ≤ 9)
    (es : ∀ k, k ≠ 7 → s' k = s k) (e7 : s' 7 = (n : Int) + 1) (eh : ∀ k, k ≠ n → he' k = he k) (ehn : he' n = x) (el : ∀ k, k ≠ n → le' k = le k) (eln : le' n = y)
    (eb : ∀ k, k ≠ 1 → (k < 58 + 4 * n ∨ 61 + 4 * n < k) → b k = a k) (b1 : b 1 = (n : Int) + 1) (b8 : b (58 + 4 * n) = x) (b9 : b (59 + 4 * n) = y) (b10 : b (60 + 4 * n) = 0) (b11 : b (61 + 4 * n) = 0) : RS s' nv se ts ha he' le' bk b := by
  have hw := H.wr
  unfold RS
  rw [eb 0 (by omega) (by omega), eb 10 (by omega) (by omega), eb 11 (by omega) (by omega), eb 12 (by omega) (by omega), eb 13 (by omega) (by omega), b1, e7, es 0 (by omega), es 12 (by omega), es 13 (by omega), es 14 (by omega), es 17 (by omega), es 16 (by omega), es 1 (by omega), es 2 (by omega), es 8 (by omega), es 9 (by omega)]
  refine ⟨H.n, by omega, H.night, H.tak, H.x, H.wr, H.el, H.bits, fun p hp hq2 => ?_, H.pb, H.pr, fun c hc hq2 => ?_, fun c hc => ?_, fun c hc hq2 => H.cr c hc (by omega), fun i hi => ?_⟩
  · rw [eb (16 + 7 * p) (by omega) (by omega), eb (17 + 7 * p) (by omega) (by omega), eb (18 + 7 * p) (by omega) (by omega), eb (19 + 7 * p) (by omega) (by omega), eb (20 + 7 * p) (by omega) (by omega), eb (21 + 7 * p) (by omega) (by omega)]
    exact H.pp p hp hq2
  · by_cases hcn : c = n
    · subst hcn
      have := H.cr c hc (by omega)
      rw [ehn, eln, b8, b9, b10, b11]
      exact ⟨rfl, rfl, this.1, this.2⟩
    · rw [eh c hcn, el c hcn, eb (58 + 4 * c) (by omega) (by omega), eb (59 + 4 * c) (by omega) (by omega), eb (60 + 4 * c) (by omega) (by omega), eb (61 + 4 * c) (by omega) (by omega)]
      exact H.cc c hc (by omega)
  · by_cases hcn : c = n
    · subst hcn
      rw [ehn, eln]; exact ⟨hx, hy⟩
    · rw [eh c hcn, el c hcn]; exact H.cb c hc
  · rw [eb (2524 + i) (by omega) (by omega)]
    have := H.bk i hi
    omega
theorem RS.sus {n : Nat} {x y z : Int} (H : RS s nv se ts ha he le bk a) (hn : n < 6) (hq : a 0 = n) (hx : 0 ≤ x ∧ x ≤ 9) (hy : 0 ≤ y ∧ y ≤ 39) (hz : z = 0 ∨ z = 1)
    (es : ∀ k, k ≠ 0 → k ≠ 1 → s' k = s k) (e7 : s' 0 = (n : Int) + 1) (e1 : (z = 0 → s' 1 = s 1) ∧ (z = 1 → s' 1 = ior (s 1) ((1 : Int) * 2 ^ n)))
    (en : ∀ k, k ≠ n → nv' k = nv k) (enn : nv' n = x) (eh : ∀ k, k ≠ n → se' k = se k) (ehn : se' n = y) (el : ∀ k, k ≠ n → ts' k = ts k) (eln : ts' n = y)
    (eb : ∀ k, k ≠ 0 → (k < 16 + 7 * n ∨ 22 + 7 * n < k) → b k = a k) (b0 : b 0 = (n : Int) + 1) (b6 : b (16 + 7 * n) = z) (b7 : b (17 + 7 * n) = x) (b8 : b (18 + 7 * n) = y) (b9 : b (19 + 7 * n) = 0) (b10 : b (20 + 7 * n) = 1) (b11 : b (21 + 7 * n) = y) : RS s' nv' se' ts' ha he le bk b := by
  have hw := H.wr
  have hbt := H.bits
  obtain ⟨g1, g2, g3, g4⟩ := ior_bt (x := s 1) (n := n) (by omega) (by omega) (by omega)
  have hb1 : 0 ≤ s' 1 ∧ s' 1 < 64 ∧ ∀ p : Nat, p < 6 → bt (s' 1) p = if p = n then z else bt (s 1) p := by
    rcases hz with rfl | rfl
    · rw [e1.1 rfl]
      refine ⟨by omega, by omega, fun p hp => ?_⟩
      by_cases hpn : p = n
      · subst hpn
        rw [if_pos rfl]; exact (H.pr p hp (by omega)).1
      · rw [if_neg hpn]
    · rw [e1.2 rfl]
      exact ⟨g1, g3 (by omega) hn, fun p hp => g4 p (by omega)⟩
  unfold RS
  rw [eb 1 (by omega) (by omega), eb 10 (by omega) (by omega), eb 11 (by omega) (by omega), eb 12 (by omega) (by omega), eb 13 (by omega) (by omega), b0, e7, es 7 (by omega) (by omega), es 12 (by omega) (by omega), es 13 (by omega) (by omega), es 14 (by omega) (by omega), es 17 (by omega) (by omega), es 16 (by omega) (by omega), es 2 (by omega) (by omega), es 8 (by omega) (by omega), es 9 (by omega) (by omega)]
  refine ⟨by omega, H.m, H.night, H.tak, H.x, H.wr, H.el, by omega, fun p hp hq2 => ?_, fun p hp => ?_, fun p hp hq2 => ?_, fun c hc hq2 => ?_, H.cb, H.cr, fun i hi => ?_⟩
  · rw [hb1.2.2 p hp]
    by_cases hpn : p = n
    · subst hpn
      have := H.pr p hp (by omega)
      rw [if_pos rfl, enn, ehn, eln, b6, b7, b8, b9, b10, b11]
      exact ⟨rfl, rfl, rfl, this.2.2, by rw [this.2.1]; rfl, rfl⟩
    · rw [if_neg hpn, en p hpn, eh p hpn, el p hpn, eb (16 + 7 * p) (by omega) (by omega), eb (17 + 7 * p) (by omega) (by omega), eb (18 + 7 * p) (by omega) (by omega), eb (19 + 7 * p) (by omega) (by omega), eb (20 + 7 * p) (by omega) (by omega), eb (21 + 7 * p) (by omega) (by omega)]
      exact H.pp p hp (by omega)
  · by_cases hpn : p = n
    · subst hpn
      rw [enn, ehn, eln]; exact ⟨hx, hy, hy, (H.pb p hp).2.2.2⟩
    · rw [en p hpn, eh p hpn, el p hpn]; exact H.pb p hp
  · rw [hb1.2.2 p hp, if_neg (by omega)]
    exact H.pr p hp (by omega)
  · rw [eb (58 + 4 * c) (by omega) (by omega), eb (59 + 4 * c) (by omega) (by omega), eb (60 + 4 * c) (by omega) (by omega), eb (61 + 4 * c) (by omega) (by omega)]
    exact H.cc c hc hq2
  · rw [eb (2524 + i) (by omega) (by omega)]
    have := H.bk i hi
    omega
end UPD
theorem RHc.fr {g g1 : Nat → Nat → Int} {a b : Nat → Int} (H : RHc g a) (er : ∀ q, q = 2 ∨ (21 ≤ q ∧ q ≤ 50) → g1 q = g q) (e : ∀ k, ((2 ≤ k ∧ k ≤ 4) ∨ (184 ≤ k ∧ k < 2524)) → b k = a k) (h0 : a 0 ≤ b 0) (h1 : a 1 ≤ b 1) : RHc g1 b := by
  unfold RHc
  rw [er 2 (by omega)]
  exact (RHrow H fun k hk => er (21 + k) (by omega)).fr e h0 h1
theorem Inv.tape {dd : List (Nat × Nat)} {sh : Nat → Nat → Nat} {g g3 : Nat → Nat → Int} (hI : Inv dd sh g) (o : ∀ q, q ≤ 101 ∨ (135 ≤ q ∧ q ≤ 137) ∨ 149 ≤ q → g3 q = g q) (hx : RXg g3) : Inv dd sh g3 := by
  refine ⟨?_, ?_, ?_, ?_, ?_, ?_, ?_, ?_, hx⟩
  · unfold RSc
    rw [o 3 (by omega), o 4 (by omega), o 5 (by omega), o 6 (by omega), o 7 (by omega), o 8 (by omega), o 9 (by omega), o 10 (by omega), o 135 (by omega)]; exact hI.s
  · unfold RNc
    rw [o 12 (by omega), o 13 (by omega), o 14 (by omega), o 16 (by omega), o 17 (by omega), o 18 (by omega), o 19 (by omega), o 135 (by omega)]; exact hI.nn
  · unfold RHc
    rw [o 2 (by omega), o 135 (by omega)]
    exact RHrow hI.h fun k hk => o (21 + k) (by omega)
  · rw [o 135 (by omega), o 137 (by omega)]
    exact hI.xt.fr rfl fun q hq => o q (by omega)
  · unfold RSi
    rw [o 53 (by omega), o 54 (by omega), o 55 (by omega), o 56 (by omega), o 57 (by omega), o 58 (by omega), o 59 (by omega), o 60 (by omega), o 136 (by omega)]; exact hI.si
  · unfold RNi
    rw [o 62 (by omega), o 63 (by omega), o 64 (by omega), o 66 (by omega), o 67 (by omega), o 68 (by omega), o 69 (by omega), o 136 (by omega)]; exact hI.ni
  · unfold RHi
    rw [o 52 (by omega), o 136 (by omega)]
    exact RHrow hI.hi fun k hk => o (71 + k) (by omega)
  · rw [o 135 (by omega), o 136 (by omega)]; exact hI.xs
