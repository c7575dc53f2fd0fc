-- plans in numbers: when he stays away, how long to run, a claque, cuts
def pm (f : Nat → Int) : Nat → Int
  | 0 => 1
  | n + 1 => pm f n * f n
theorem pw10 : ∀ n, n ≤ 17 → 1 ≤ pw 10 n ∧ pw 10 n ≤ 100000000000000000 := by decide +kernel
theorem pw10_9 : ∀ n, n ≤ 9 → 1 ≤ pw 10 n ∧ pw 10 n ≤ 1000000000 := by decide +kernel
theorem pm_b {f : Nat → Int} {n : Nat} (h : ∀ k, k < n → 0 ≤ f k ∧ f k ≤ 10) : 0 ≤ pm f n ∧ pm f n ≤ pw 10 n := by
  induction n with
  | zero => exact ⟨by show (0 : Int) ≤ 1; decide, Int.le_refl _⟩
  | succ n ih =>
    obtain ⟨h1, h2⟩ := ih fun k hk => h k (by omega)
    obtain ⟨h3, h4⟩ := h n (by omega)
    refine ⟨Int.mul_nonneg h1 h3, ?_⟩
    show pm f n * f n ≤ pw 10 n * 10
    exact Int.mul_le_mul h2 h4 h3 (by omega)
-- stays away
def hdF (r : Nat → Int) (set : Int) (k : Nat) : Int := if bt set k = 0 then 10 - r k else 10
def cost (r : Nat → Int) (n : Nat) (c p : Int) (set : Nat) : Int := sm (bt set) n * c * pw 10 n + p * (pw 10 n - pm (hdF r set) n)
theorem cost_b {r : Nat → Int} (hr : ∀ k, k < 9 → 0 ≤ r k ∧ r k ≤ 10) {n : Nat} (hn : n ≤ 9) {c p : Int} (hc : 0 ≤ c ∧ c ≤ 99) (hp : 0 ≤ p ∧ p ≤ 9999) (set : Nat) : 0 ≤ cost r n c p set ∧ cost r n c p set < 100000000000000 := by
  obtain ⟨h1, h2⟩ := pw10_9 n hn
  obtain ⟨h3, h4⟩ := pm_b (f := hdF r set) (n := n) fun k hk => by
    have := hr k (by omega)
    unfold hdF; split <;> omega
  have h5 := sm_bound (f := bt (set : Int)) (n := n) (B := 1) fun k _ => bt01 _ k
  have h6 : 0 ≤ sm (bt (set : Int)) n * c ∧ sm (bt (set : Int)) n * c ≤ 9 * 99 := ⟨Int.mul_nonneg h5.1 hc.1, Int.mul_le_mul (by omega) hc.2 hc.1 (by decide)⟩
  have h7 : 0 ≤ sm (bt (set : Int)) n * c * pw 10 n ∧ sm (bt (set : Int)) n * c * pw 10 n ≤ 9 * 99 * 1000000000 := ⟨Int.mul_nonneg h6.1 (by omega), Int.mul_le_mul h6.2 h2 (by omega) (by decide)⟩
  have h8 : 0 ≤ p * (pw 10 n - pm (hdF r set) n) ∧ p * (pw 10 n - pm (hdF r set) n) ≤ 9999 * 1000000000 := ⟨Int.mul_nonneg hp.1 (by omega), Int.mul_le_mul hp.2 (by omega) (by omega) (by decide)⟩
  unfold cost
  omega
/-- the first of the least among 0 .. k -/
def mnS (f : Nat → Int) : Nat → Nat
  | 0 => 0
  | k + 1 => if f (k + 1) < f (mnS f k) then k + 1 else mnS f k
theorem mnS_le (f : Nat → Int) (k : Nat) : mnS f k ≤ k := by
  induction k with
  | zero => exact Nat.le_refl _
  | succ k ih => show (if f (k + 1) < f (mnS f k) then k + 1 else mnS f k) ≤ k + 1; split <;> omega
theorem pow_9 {n : Nat} (h : n ≤ 9) : 1 ≤ 2 ^ n ∧ 2 ^ n ≤ 512 := ⟨Nat.pow_pos (by decide), Nat.pow_le_pow_right (by decide) h⟩
theorem s_X4_costOf {d : Nat} {dd : List (Nat × Nat)} {sh : Nat → Nat → Nat} {g : Nat → Nat → Int} {K : Int → (Nat → Nat → Int) → Prop} {set n : Nat} {c p : Int} (hr : ∀ k, k < 9 → 0 ≤ g 13 k ∧ g 13 k ≤ 10) (hn : n ≤ 9) (hset : set < 512) (hc : i32 c) (hp : i32 p) (hK : K (cost (g 13) n c p set) g) : cL (d + 2) m_X4_costOf [(vR 122), (vI ((set : Int))), (vI ((n : Int))), (vI c), (vI p)] dd sh g K := by
  refine mkL (ls := [some (vR 122), some (vI ((set : Int))), some (vI ((n : Int))), some (vI c), some (vI p), none, none, none, none, none, none, none]) rfl rfl rfl rfl rfl (r_X4_costOf_0 ?_)
  refine loop (P := fun k => rL (d + 1) m_X4_costOf 12 [some (vR 122), some (vI ((set : Int))), some (vI ((n : Int))), some (vI c), some (vI p), some (vL (pw 10 k)), none, some (vL (pm (hdF (g 13) set) k)), none, some (vL (sm (bt (set : Int)) k)), none, some (vI ((k : Int)))] [] dd sh g K) (n := n) ?_ ?_ 0 (by omega)
  · exact r_X4_costOf_12 ⟨⟨by omega, by omega⟩, ⟨by omega, by omega⟩, fun _ => ⟨hc, hp, hK⟩, fun h => absurd h (by omega)⟩
  · intro k hk ih
    have hrk := hr k (by omega)
    refine r_X4_costOf_12 ⟨⟨by omega, by omega⟩, ⟨by omega, by omega⟩, fun h => absurd h (by omega), fun _ => ⟨fun h => absurd h (by omega), fun _ => ?_⟩⟩
    refine s_X11_hasBit (by omega) (by omega) (by omega) (by omega) fun r h1 h2 h3 => ⟨by omega, fun h => ⟨by omega, by omega, ?_, ?_⟩, fun h => ?_⟩
    · rw [show ((k : Int)).toNat = k from rfl]; omega
    · rw [show ((k : Int)).toNat = k from rfl] at h1 ⊢
      have e1 : pm (hdF (g 13) set) k * (10 - g 13 k) = pm (hdF (g 13) set) (k + 1) := by
        show _ = pm (hdF (g 13) set) k * hdF (g 13) set k
        rw [show hdF (g 13) set k = 10 - g 13 k from if_pos (by omega)]
      have e2 : sm (bt (set : Int)) k = sm (bt (set : Int)) (k + 1) := by
        show _ = sm (bt (set : Int)) k + bt (set : Int) k
        omega
      rw [e1, e2]; exact ih
    · rw [show ((k : Int)).toNat = k from rfl] at h1
      have e1 : pm (hdF (g 13) set) k * 10 = pm (hdF (g 13) set) (k + 1) := by
        show _ = pm (hdF (g 13) set) k * hdF (g 13) set k
        rw [show hdF (g 13) set k = 10 from if_neg (by omega)]
      have e2 : sm (bt (set : Int)) k + 1 = sm (bt (set : Int)) (k + 1) := by
        show _ = sm (bt (set : Int)) k + bt (set : Int) k
        omega
      rw [e1, e2]; exact ih
theorem s_X12_awayCost {d : Nat} {dd : List (Nat × Nat)} {sh : Nat → Nat → Nat} {g : Nat → Nat → Int} {K : Int → (Nat → Nat → Int) → Prop} {set n : Nat} {c p : Int} (hr : ∀ k, k < 9 → 0 ≤ g 135 (174 + k) ∧ g 135 (174 + k) ≤ 10) (hn : n ≤ 9) (hset : set < 2 ^ n) (hc : 0 ≤ c ∧ c ≤ 99) (hp : i32 p) (hK : K (cost (fun k => g 135 (174 + k)) n c p set) g) : cL (d + 2) m_X12_awayCost [(vR 134), (vI ((set : Int))), (vI ((n : Int))), (vI c), (vI p)] dd sh g K := by
  have hs2 := pow_9 hn
  refine mkL (ls := [some (vR 134), some (vI ((set : Int))), some (vI ((n : Int))), some (vI c), some (vI p), none, none, none]) rfl rfl rfl rfl rfl (r_X12_awayCost_0 ?_)
  refine loop (P := fun k => rL (d + 1) m_X12_awayCost 6 [some (vR 134), some (vI ((set : Int))), some (vI ((n : Int))), some (vI c), some (vI p), some (vL (pm (hdF (fun k => g 135 (174 + k)) set) k)), none, some (vI ((k : Int)))] [] dd sh g K) (n := n) ?_ ?_ 0 (by omega)
  · refine r_X12_awayCost_6 ⟨⟨by omega, by omega⟩, ⟨by omega, by omega⟩, fun _ => ?_, fun h => absurd h (by omega)⟩
    refine s_X12_bits (by omega) (by omega) ?_
    rw [bits_eq (q := n) (m := 10) (by omega) (by rw [← two_pow_cast]; omega) (by omega)]
    have h5 := sm_bound (f := bt (set : Int)) (n := n) (B := 1) fun k _ => bt01 _ k
    have h6 : 0 ≤ c * sm (bt (set : Int)) n ∧ c * sm (bt (set : Int)) n ≤ 99 * 9 := ⟨Int.mul_nonneg hc.1 h5.1, Int.mul_le_mul hc.2 (by omega) h5.1 (by decide)⟩
    refine ⟨⟨by omega, by omega⟩, s_X12_tens (by omega) (by omega) ⟨hp, s_X12_tens (by omega) (by omega) ?_⟩⟩
    unfold cost at hK
    rw [Int.mul_comm c, show ((n : Int)).toNat = n from rfl]
    exact hK
  · intro k hk ih
    have hrk := hr k (by omega)
    refine r_X12_awayCost_6 ⟨⟨by omega, by omega⟩, ⟨by omega, by omega⟩, fun h => absurd h (by omega), fun _ => ?_⟩
    refine s_X12_has (by omega) (by omega) (by omega) (by omega) fun r h1 h2 h3 => ⟨by omega, fun h => ⟨by omega, by omega, ?_, ?_⟩, fun h => ?_⟩
    · rw [show (174 + (k : Int)).toNat = 174 + k by omega]; omega
    · rw [show ((k : Int)).toNat = k from rfl] at h1
      rw [show (174 + (k : Int)).toNat = 174 + k by omega]
      have e1 : pm (hdF (fun k => g 135 (174 + k)) set) k * (10 - g 135 (174 + k)) = pm (hdF (fun k => g 135 (174 + k)) set) (k + 1) := by
        show _ = pm (hdF (fun k => g 135 (174 + k)) set) k * hdF (fun k => g 135 (174 + k)) set k
        rw [show hdF (fun k => g 135 (174 + k)) set k = 10 - g 135 (174 + k) from if_pos (by omega)]
      rw [e1]; exact ih
    · rw [show ((k : Int)).toNat = k from rfl] at h1
      have e1 : pm (hdF (fun k => g 135 (174 + k)) set) k * 10 = pm (hdF (fun k => g 135 (174 + k)) set) (k + 1) := by
        show _ = pm (hdF (fun k => g 135 (174 + k)) set) k * hdF (fun k => g 135 (174 + k)) set k
        rw [show hdF (fun k => g 135 (174 + k)) set k = 10 from if_neg (by omega)]
      rw [e1]; exact ih
/-- what is answered of the set (what 0) or of the mean -/
def ansOf (what : Int) (best : Int) (x y : Int) : Int := if what = 0 then best else prt x.toNat y.toNat (if what = 2 then 1 else 0)
theorem s_X4_cheapestNights {d : Nat} {dd : List (Nat × Nat)} {sh : Nat → Nat → Nat} {g : Nat → Nat → Int} {K : Int → (Nat → Nat → Int) → Prop} {n : Nat} {c p w : Int} (hr : ∀ k, k < 9 → 0 ≤ g 13 k ∧ g 13 k ≤ 10) (hn : n ≤ 9) (hc : 0 ≤ c ∧ c ≤ 99) (hp : 0 ≤ p ∧ p ≤ 9999) (hw : 0 ≤ w ∧ w ≤ 2) (hK : K (ansOf w (mnS (cost (g 13) n c p) (2 ^ n - 1)) (cost (g 13) n c p (mnS (cost (g 13) n c p) (2 ^ n - 1))) (pw 10 n)) g) : cL (d + 3) m_X4_cheapestNights [(vR 122), (vI ((n : Int))), (vI c), (vI p), (vI w)] dd sh g K := by
  have hs2 := pow_9 hn
  have h10 := pw10_9 n hn
  have e2n : (1 : Int) * 2 ^ ((n : Int)).toNat = ((2 ^ n : Nat) : Int) := by rw [Int.one_mul, two_pow_cast]; rfl
  refine mkL (ls := [some (vR 122), some (vI ((n : Int))), some (vI c), some (vI p), some (vI w), none, none, none, none, none, none, none, none]) rfl rfl rfl rfl rfl (r_X4_cheapestNights_0 ?_)
  refine s_X11_power (by omega) (by omega) ?_
  rw [show ((n : Int)).toNat = n from rfl]
  refine s_X4_costOf (set := 0) hr hn (by omega) (by omega) (by omega) ?_
  refine loop (P := fun k => rL (d + 2) m_X4_cheapestNights 25 [some (vR 122), some (vI ((n : Int))), some (vI c), some (vI p), some (vI w), some (vL (pw 10 n)), none, some (vI (((mnS (cost (g 13) n c p) k : Nat) : Int))), some (vL (cost (g 13) n c p (mnS (cost (g 13) n c p) k))), none, some (vI (((k + 1 : Nat) : Int))), none, none] [] dd sh g K) (n := 2 ^ n - 1) ?_ ?_ 0 (by omega)
  · have hle := mnS_le (cost (g 13) n c p) (2 ^ n - 1)
    have hcb := cost_b hr hn hc hp (mnS (cost (g 13) n c p) (2 ^ n - 1))
    obtain ⟨x, hx⟩ := Int.eq_ofNat_of_zero_le hcb.1
    obtain ⟨y, hy⟩ := Int.eq_ofNat_of_zero_le (show 0 ≤ pw 10 n by omega)
    refine r_X4_cheapestNights_25 ?_
    rw [e2n]
    refine ⟨by omega, by omega, ⟨by omega, by omega⟩, ⟨by omega, by omega⟩, fun _ => ⟨⟨by omega, by omega⟩, fun h0 => ⟨fun h2 => ?_, fun h2 => ?_⟩, fun h0 => ⟨⟨by omega, by omega⟩, ?_⟩⟩, fun h => absurd h (by omega)⟩
    · unfold ansOf at hK
      rw [if_neg h0, if_neg h2, hx, hy] at hK
      rw [hx, hy]
      exact s_X11_lowestTerms (by omega) (by omega) (Or.inl rfl) hK
    · unfold ansOf at hK
      rw [if_neg h0, if_pos h2, hx, hy] at hK
      rw [hx, hy]
      exact s_X11_lowestTerms (by omega) (by omega) (Or.inr rfl) hK
    · unfold ansOf at hK
      rw [if_pos h0] at hK
      exact hK
  · intro k hk ih
    have hc1 := cost_b hr hn hc hp (k + 1)
    have hc2 := cost_b hr hn hc hp (mnS (cost (g 13) n c p) k)
    refine r_X4_cheapestNights_25 ?_
    rw [e2n]
    refine ⟨by omega, by omega, ⟨by omega, by omega⟩, ⟨by omega, by omega⟩, fun h => absurd h (by omega), fun _ => ?_⟩
    refine s_X4_costOf (set := k + 1) hr hn (by omega) (by omega) (by omega) ?_
    simp only [lcmp_lt, lcmp_ge]
    refine ⟨⟨by omega, by omega⟩, ⟨by omega, by omega⟩, lcmp32, fun h => ?_, fun h => ?_⟩
    · rw [show mnS (cost (g 13) n c p) (k + 1) = mnS (cost (g 13) n c p) k from if_neg (by omega)] at ih
      exact ih
    · rw [show mnS (cost (g 13) n c p) (k + 1) = k + 1 from if_pos (by omega)] at ih
      exact ih
theorem s_X12_staysAway {d : Nat} {dd : List (Nat × Nat)} {sh : Nat → Nat → Nat} {g : Nat → Nat → Int} {K : Int → (Nat → Nat → Int) → Prop} {n : Nat} {c p w : Int} (hr : ∀ k, k < 9 → 0 ≤ g 135 (174 + k) ∧ g 135 (174 + k) ≤ 10) (hn : 1 ≤ n ∧ n ≤ 9) (hc : 0 ≤ c ∧ c ≤ 99) (hp : 0 ≤ p ∧ p ≤ 9999) (hw : 0 ≤ w ∧ w ≤ 2) (hK : K (ansOf w (mnS (cost (fun k => g 135 (174 + k)) n c p) (2 ^ n - 1)) (cost (fun k => g 135 (174 + k)) n c p (mnS (cost (fun k => g 135 (174 + k)) n c p) (2 ^ n - 1))) (pw 10 n)) g) : cL (d + 3) m_X12_staysAway [(vR 134), (vI ((n : Int))), (vI c), (vI p), (vI w)] dd sh g K := by
  have hn9 := hn.2
  have hs2 := pow_9 hn9
  have h10 := pw10_9 n hn9
  have e2n : (1 : Int) * 2 ^ ((n : Int)).toNat = ((2 ^ n : Nat) : Int) := by rw [Int.one_mul, two_pow_cast]; rfl
  refine mkL (ls := [some (vR 134), some (vI ((n : Int))), some (vI c), some (vI p), some (vI w), none, none]) rfl rfl rfl rfl rfl (r_X12_staysAway_0 ?_)
  refine s_X12_isIn (by omega) (by omega) (by omega) (fun _ _ => ⟨⟨by decide, by decide⟩, fun h => absurd h (by decide), fun _ => ?_⟩) (fun h => absurd h (by omega))
  refine s_X12_isIn (by omega) (by omega) (by omega) (fun _ _ => ⟨⟨by decide, by decide⟩, fun h => absurd h (by decide), fun _ => ?_⟩) (fun h => absurd h (by omega))
  refine s_X12_isIn (by omega) (by omega) (by omega) (fun _ _ => ⟨⟨by decide, by decide⟩, fun h => absurd h (by decide), fun _ => ?_⟩) (fun h => absurd h (by omega))
  refine s_X12_isIn (by omega) (by omega) (by omega) (fun _ _ => ⟨⟨by decide, by decide⟩, fun _ => ?_, fun h => absurd h (by decide)⟩) (fun h => absurd h (by omega))
  generalize hR : (fun k => g 135 (174 + k)) = R at hK
  refine loop (P := fun k => rL (d + 2) m_X12_staysAway 51 [some (vR 134), some (vI ((n : Int))), some (vI c), some (vI p), some (vI w), some (vI (((mnS (cost R n c p) k : Nat) : Int))), some (vI (((k + 1 : Nat) : Int)))] [] dd sh g K) (n := 2 ^ n - 1) ?_ ?_ 0 (by omega)
  · have hle := mnS_le (cost R n c p) (2 ^ n - 1)
    have hcb := cost_b (r := R) (fun k hk => by rw [← hR]; exact hr k hk) hn9 hc hp (mnS (cost R n c p) (2 ^ n - 1))
    obtain ⟨x, hx⟩ := Int.eq_ofNat_of_zero_le hcb.1
    obtain ⟨y, hy⟩ := Int.eq_ofNat_of_zero_le (show 0 ≤ pw 10 n by omega)
    refine r_X12_staysAway_51 ?_
    rw [e2n]
    refine ⟨by omega, by omega, ⟨by omega, by omega⟩, ⟨by omega, by omega⟩, fun _ => ⟨⟨by omega, by omega⟩, fun h0 => ?_, fun h0 => ⟨⟨by omega, by omega⟩, ?_⟩⟩, fun h => absurd h (by omega)⟩
    · refine s_X12_awayCost hr hn9 (by omega) hc (by omega) ?_
      refine s_X12_tens (by omega) (by omega) ?_
      rw [hR, show ((n : Int)).toNat = n from rfl, hx, hy]
      unfold ansOf at hK
      rw [if_neg h0, hx, hy] at hK
      refine ⟨fun h2 => ?_, fun h2 => ?_⟩
      · rw [if_neg h2] at hK
        exact s_X12_part (by omega) (by omega) (Or.inl rfl) hK
      · rw [if_pos h2] at hK
        exact s_X12_part (by omega) (by omega) (Or.inr rfl) hK
    · unfold ansOf at hK
      rw [if_pos h0] at hK
      exact hK
  · intro k hk ih
    have hr2 : ∀ k, k < 9 → 0 ≤ R k ∧ R k ≤ 10 := fun k hk => by rw [← hR]; exact hr k hk
    have hc1 := cost_b hr2 hn9 hc hp (k + 1)
    have hc2 := cost_b hr2 hn9 hc hp (mnS (cost R n c p) k)
    have hle := mnS_le (cost R n c p) k
    refine r_X12_staysAway_51 ?_
    rw [e2n]
    refine ⟨by omega, by omega, ⟨by omega, by omega⟩, ⟨by omega, by omega⟩, fun h => absurd h (by omega), fun _ => ?_⟩
    refine s_X12_awayCost (set := k + 1) hr hn9 (by omega) hc (by omega) ?_
    refine s_X12_awayCost (set := mnS (cost R n c p) k) hr hn9 (by omega) hc (by omega) ?_
    rw [hR]
    simp only [lcmp_lt, lcmp_ge]
    refine ⟨⟨by omega, by omega⟩, ⟨by omega, by omega⟩, lcmp32, fun h => ?_, fun h => ?_⟩
    · rw [show mnS (cost R n c p) (k + 1) = mnS (cost R n c p) k from if_neg (by omega)] at ih
      exact ih
    · rw [show mnS (cost R n c p) (k + 1) = k + 1 from if_pos (by omega)] at ih
      exact ih
theorem prt_b {x y : Nat} {low : Int} (hx : x < 2 ^ 62) (hy : y < 2 ^ 62) (hl : low = 0 ∨ low = 1) : i64 (prt x y low) := by
  unfold prt
  split
  · omega
  · have h1 := Nat.div_le_self (if low = 0 then x else y) (Nat.gcd x y)
    have h2 : (if low = 0 then x else y) < 2 ^ 62 := by split <;> assumption
    generalize (if low = 0 then x else y) / Nat.gcd x y = q at h1 ⊢
    constructor <;> omega
theorem ansOf_b {w b x y : Int} (hb : i64 b) (hx : x < 2 ^ 62) (hy : y < 2 ^ 62) : i64 (ansOf w b x y) := by
  unfold ansOf
  split
  · exact hb
  · exact prt_b (by omega) (by omega) (by split <;> simp)
theorem cost_congr {r r' : Nat → Int} {n : Nat} (hn : n ≤ 9) (h : ∀ k, k < 9 → r k = r' k) (c p : Int) : cost r n c p = cost r' n c p := by
  funext set
  unfold cost
  have : ∀ m, m ≤ n → pm (hdF r set) m = pm (hdF r' set) m := by
    intro m
    induction m with
    | zero => intro _; rfl
    | succ m ih => intro hm; show pm (hdF r set) m * hdF r set m = pm (hdF r' set) m * hdF r' set m; rw [ih (by omega)]; unfold hdF; rw [h m (by omega)]
  rw [this n (Nat.le_refl _)]
set_option maxRecDepth 8000 in
theorem sim_staysAway : S_staysAway := by
  intro dd sh g hI a1 a2 a3 a4 h1 h2 h3 h4
  have hrk := hI.nn.rk
  unfold SimL
  refine mkL (ls := [some (vR 1), some (vI a1), some (vI a2), some (vI a3), some (vI a4)]) rfl rfl rfl rfl rfl (r_X11_staysAway_0 ?_)
  by_cases c : (1 ≤ a1 ∧ a1 ≤ 9) ∧ (0 ≤ a2 ∧ a2 ≤ 99) ∧ (0 ≤ a3 ∧ a3 ≤ 9999) ∧ 0 ≤ a4 ∧ a4 ≤ 2
  · obtain ⟨n, rfl⟩ := Int.eq_ofNat_of_zero_le (show 0 ≤ a1 by omega)
    refine ⟨h1, fun h => absurd h (by omega), fun _ => ⟨fun h => absurd h (by omega), fun _ => ⟨h2, fun h => absurd h (by omega), fun _ => ⟨fun h => absurd h (by omega), fun _ => ⟨h3, fun h => absurd h (by omega), fun _ => ⟨fun _ => ⟨h4, fun h => absurd h (by omega), fun _ => ⟨fun _ => ?_, fun h => absurd h (by omega)⟩⟩, fun h => absurd h (by omega)⟩⟩⟩⟩⟩⟩
    have e := cost_congr (r := g 13) (r' := fun k => g 135 (174 + k)) (n := n) (by omega) (fun k hk => (hrk k hk).1) a2 a3
    refine s_X4_cheapestNights (fun k hk => by have := hrk k hk; omega) (by omega) c.2.1 c.2.2.1 c.2.2.2 ?_
    refine s_X12_staysAway (fun k hk => (hrk k hk).2) (by omega) c.2.1 c.2.2.1 c.2.2.2 ⟨by rw [e], ?_, hI⟩
    have hle := mnS_le (cost (g 13) n a2 a3) (2 ^ n - 1)
    have hs2 := pow_9 (n := n) (by omega)
    have h10 := pw10_9 n (by omega)
    have hcb := cost_b (r := g 13) (n := n) (fun k hk => by have := hrk k hk; omega) (by omega) c.2.1 c.2.2.1 (mnS (cost (g 13) n a2 a3) (2 ^ n - 1))
    exact ansOf_b ⟨by omega, by omega⟩ (by omega) (by omega)
  · have hr2 : cL 200 m_X12_staysAway [vR 134, vI a1, vI a2, vI a3, vI a4] dd sh g (fun r' g3 => -1 = r' ∧ i64 (-1) ∧ Inv dd sh g3) := by
      refine mkL (ls := [some (vR 134), some (vI a1), some (vI a2), some (vI a3), some (vI a4), none, none]) rfl rfl rfl rfl rfl (r_X12_staysAway_0 ?_)
      repeat' (first
        | (refine imp_mk ?_; intro hh; first | contradiction | (exfalso; omega) | skip)
        | (refine s_X12_isIn (by omega) (by omega) (by omega) (fun _ _ => ?_) (fun _ => ?_))
        | (exact hI)
        | (exact absurd ⟨⟨by omega, by omega⟩, ⟨by omega, by omega⟩, ⟨by omega, by omega⟩, by omega, by omega⟩ c)
        | refine And.intro ?_ ?_
        | omega)
    repeat' (first
      | (refine imp_mk ?_; intro hh; first | contradiction | (exfalso; omega) | skip)
      | (exact hr2)
      | (exact absurd ⟨⟨by omega, by omega⟩, ⟨by omega, by omega⟩, ⟨by omega, by omega⟩, by omega, by omega⟩ c)
      | refine And.intro ?_ ?_
      | omega)
-- how long to run
theorem rc_dec : ∀ q : Nat, q < 11 → ∀ k : Nat, k < 9 → (0 ≤ pw (10 - (q : Int)) k * pw 10 (8 - k) ∧ pw (10 - (q : Int)) k * pw 10 (8 - k) ≤ 100000000) ∧ pw (10 - (q : Int)) k * pw 10 (9 - k) = 10 * (pw (10 - (q : Int)) k * pw 10 (8 - k)) ∧ pw (10 - (q : Int)) k * pw 10 (8 - k) * (10 - (q : Int)) = pw (10 - (q : Int)) (k + 1) * pw 10 (9 - (k + 1)) := by decide +kernel
def tkF2 (t d : Int) (k : Nat) : Int := max (t - d * k) 0
def r8 (q : Nat) (k : Nat) : Int := pw (10 - (q : Int)) k * pw 10 (8 - k)
def rnF (t d w : Int) (q : Nat) (k : Nat) : Int := r8 q k * (10 * tkF2 t d k + q * w)
def nnF (f : Nat → Int) : Nat → Nat
  | 0 => 0
  | k + 1 => if 0 < f k then k + 1 else nnF f k
theorem nnF_le (f : Nat → Int) (k : Nat) : nnF f k ≤ k := by
  induction k with
  | zero => exact Nat.le_refl _
  | succ k ih => show (if 0 < f k then k + 1 else nnF f k) ≤ k + 1; split <;> omega
theorem rnF_b {t d w : Int} {q k : Nat} (ht : 0 ≤ t ∧ t ≤ 9999) (hd : 0 ≤ d) (hw : 0 ≤ w ∧ w ≤ 9999) (hq : q < 11) (hk : k < 9) : (0 ≤ tkF2 t d k ∧ tkF2 t d k ≤ 9999) ∧ (0 ≤ 10 * tkF2 t d k + q * w ∧ 10 * tkF2 t d k + q * w ≤ 199980) ∧ 0 ≤ rnF t d w q k ∧ rnF t d w q k ≤ 100000000 * 199980 := by
  obtain ⟨⟨h1, h2⟩, -⟩ := rc_dec q hq k hk
  have h3 : 0 ≤ d * (k : Int) := Int.mul_nonneg hd (by omega)
  have h4 : 0 ≤ tkF2 t d k ∧ tkF2 t d k ≤ 9999 := by unfold tkF2; omega
  have h5 : 0 ≤ (q : Int) * w ∧ (q : Int) * w ≤ 10 * 9999 := ⟨Int.mul_nonneg (by omega) hw.1, Int.mul_le_mul (by omega) hw.2 hw.1 (by decide)⟩
  have h6 : 0 ≤ 10 * tkF2 t d k + q * w ∧ 10 * tkF2 t d k + q * w ≤ 199980 := by omega
  exact ⟨h4, h6, Int.mul_nonneg h1 h6.1, Int.mul_le_mul h2 h6.2 h6.1 (by decide)⟩
theorem prt10 (x y : Nat) (low : Int) : prt (10 * x) (10 * y) low = prt x y low := by
  unfold prt
  by_cases h : y = 0
  · subst h; rw [if_pos rfl, if_pos rfl]
  · rw [if_neg (by omega), if_neg h, Nat.gcd_mul_left]
    by_cases h0 : low = 0
    · rw [if_pos h0, if_pos h0, Nat.mul_div_mul_left _ _ (by decide)]
    · rw [if_neg h0, if_neg h0, Nat.mul_div_mul_left _ _ (by decide)]
theorem s_X4_bestRun {d : Nat} {dd : List (Nat × Nat)} {sh : Nat → Nat → Nat} {g : Nat → Nat → Int} {K : Int → (Nat → Nat → Int) → Prop} {t d0 w z : Int} {q : Nat} (ht : 0 ≤ t ∧ t ≤ 9999) (hd : 0 ≤ d0 ∧ d0 ≤ 999) (hq : q < 11) (hw : 0 ≤ w ∧ w ≤ 9999) (hz : 0 ≤ z ∧ z ≤ 2) (hK : K (ansOf z (nnF (rnF t d0 w q) 9) (sm (rnF t d0 w q) 9) (pw 10 9)) g) : cL (d + 3) m_X4_bestRun [(vR 122), (vI t), (vI d0), (vI ((q : Int))), (vI w), (vI z)] dd sh g K := by
  refine mkL (ls := [some (vR 122), some (vI t), some (vI d0), some (vI ((q : Int))), some (vI w), some (vI z), none, none, none, none, none, none, none, none, none, none, none, none]) rfl rfl rfl rfl rfl (r_X4_bestRun_0 ?_)
  refine s_X11_power (by decide) (by decide) ?_
  rw [show pw 10 ((10 : Int)).toNat = 10000000000 from by decide +kernel]
  refine loop (P := fun k => rL (d + 2) m_X4_bestRun 19 [none, some (vI t), some (vI d0), some (vI ((q : Int))), some (vI w), some (vI z), some (vL 10000000000), none, some (vL (10 * sm (rnF t d0 w q) k)), none, some (vI (((nnF (rnF t d0 w q) k : Nat) : Int))), some (vI ((k : Int))), none, none, none, none, none, none] [] dd sh g K) (n := 9) ?_ ?_ 0 (by omega)
  · have hb := sm_bound (f := rnF t d0 w q) (n := 9) (B := 100000000 * 199980) fun k hk => (rnF_b ht hd.1 hw hq hk).2.2
    have hn := nnF_le (rnF t d0 w q) 9
    obtain ⟨x, hx⟩ := Int.eq_ofNat_of_zero_le hb.1
    have e10 : pw 10 9 = ((1000000000 : Nat) : Int) := by decide +kernel
    refine r_X4_bestRun_19 ⟨⟨by omega, by omega⟩, fun _ => ⟨⟨by omega, by omega⟩, fun h0 => ⟨fun h2 => ?_, fun h2 => ?_⟩, fun h0 => ⟨⟨by omega, by omega⟩, ?_⟩⟩, fun h => absurd h (by omega)⟩
    · unfold ansOf at hK
      rw [if_neg h0, if_neg h2, hx, e10] at hK
      rw [hx, show 10 * ((x : Nat) : Int) = ((10 * x : Nat) : Int) by omega, show (10000000000 : Int) = ((10 * 1000000000 : Nat) : Int) from rfl]
      refine s_X11_lowestTerms (by omega) (by decide) (Or.inl rfl) ?_
      rw [prt10]; exact hK
    · unfold ansOf at hK
      rw [if_neg h0, if_pos h2, hx, e10] at hK
      rw [hx, show 10 * ((x : Nat) : Int) = ((10 * x : Nat) : Int) by omega, show (10000000000 : Int) = ((10 * 1000000000 : Nat) : Int) from rfl]
      refine s_X11_lowestTerms (by omega) (by decide) (Or.inr rfl) ?_
      rw [prt10]; exact hK
    · unfold ansOf at hK
      rw [if_pos h0] at hK; exact hK
  · intro k hk ih
    obtain ⟨b1, b2, b3⟩ := rnF_b (t := t) (d := d0) (w := w) (q := q) ht hd.1 hw hq hk
    obtain ⟨r1, r2, r3⟩ := rc_dec q hq k hk
    have h3 : 0 ≤ d0 * (k : Int) ∧ d0 * (k : Int) ≤ 999 * 9 := ⟨Int.mul_nonneg hd.1 (by omega), Int.mul_le_mul hd.2 (by omega) (by omega) (by decide)⟩
    refine r_X4_bestRun_19 ⟨⟨by omega, by omega⟩, fun h => absurd h (by omega), fun _ => ?_⟩
    refine s_J9_max (by omega) (by omega) fun r hr => ⟨?_, ⟨by omega, by omega⟩, ?_⟩
    · rw [hr]; omega
    refine s_X11_power (by omega) (by omega) (s_X11_power (by omega) (by omega) ?_)
    rw [show ((k : Int)).toNat = k from rfl, show (9 - (k : Int)).toNat = 9 - k by omega, hr, show max (t - d0 * (k : Int)) 0 = tkF2 t d0 k from rfl, r2]
    have em : 10 * (pw (10 - (q : Int)) k * pw 10 (8 - k)) * (10 * tkF2 t d0 k + (q : Int) * w) = 10 * rnF t d0 w q k := by
      unfold rnF r8
      rw [Int.mul_assoc]
    rw [em]
    simp only [lcmp_le, lcmp_gt]
    refine ⟨⟨by omega, by omega⟩, ⟨by omega, by omega⟩, ⟨by omega, by omega⟩, lcmp32, fun h => ?_, fun h => ?_⟩
    · rw [show sm (rnF t d0 w q) (k + 1) = sm (rnF t d0 w q) k + rnF t d0 w q k from rfl, show rnF t d0 w q k = 0 by omega, Int.add_zero, show nnF (rnF t d0 w q) (k + 1) = nnF (rnF t d0 w q) k from if_neg (by omega)] at ih
      exact ih
    · rw [show sm (rnF t d0 w q) (k + 1) = sm (rnF t d0 w q) k + rnF t d0 w q k from rfl, Int.mul_add, show nnF (rnF t d0 w q) (k + 1) = k + 1 from if_pos (by omega)] at ih
      exact ih
theorem s_X12_toRun {d : Nat} {dd : List (Nat × Nat)} {sh : Nat → Nat → Nat} {g : Nat → Nat → Int} {K : Int → (Nat → Nat → Int) → Prop} {t d0 w z : Int} {q : Nat} (ht : 0 ≤ t ∧ t ≤ 9999) (hd : 0 ≤ d0 ∧ d0 ≤ 999) (hq : q < 11) (hw : 0 ≤ w ∧ w ≤ 9999) (hz : 0 ≤ z ∧ z ≤ 2) (hK : K (ansOf z (nnF (rnF t d0 w q) 9) (sm (rnF t d0 w q) 9) (pw 10 9)) g) : cL (d + 3) m_X12_toRun [(vR 134), (vI t), (vI d0), (vI ((q : Int))), (vI w), (vI z)] dd sh g K := by
  refine mkL (ls := [some (vR 134), some (vI t), some (vI d0), some (vI ((q : Int))), some (vI w), some (vI z), none, none, none, none, none, none, none, none, none]) rfl rfl rfl rfl rfl (r_X12_toRun_0 ?_)
  refine s_X12_isIn (by omega) (by omega) (by omega) (fun _ _ => ⟨⟨by decide, by decide⟩, fun h => absurd h (by decide), fun _ => ?_⟩) (fun h => absurd h (by omega))
  refine s_X12_isIn (by omega) (by omega) (by omega) (fun _ _ => ⟨⟨by decide, by decide⟩, fun h => absurd h (by decide), fun _ => ?_⟩) (fun h => absurd h (by omega))
  refine s_X12_isIn (by omega) (by omega) (by omega) (fun _ _ => ⟨⟨by decide, by decide⟩, fun h => absurd h (by decide), fun _ => ?_⟩) (fun h => absurd h (by omega))
  refine s_X12_isIn (by omega) (by omega) (by omega) (fun _ _ => ⟨⟨by decide, by decide⟩, fun h => absurd h (by decide), fun _ => ?_⟩) (fun h => absurd h (by omega))
  refine s_X12_isIn (by omega) (by omega) (by omega) (fun _ _ => ⟨⟨by decide, by decide⟩, fun _ => ?_, fun h => absurd h (by decide)⟩) (fun h => absurd h (by omega))
  refine s_X12_tens (by decide) (by decide) ?_
  rw [show pw 10 ((9 : Int)).toNat = pw (10 - (q : Int)) 0 * pw 10 (9 - 0) by rw [show pw (10 - (q : Int)) 0 = 1 from rfl, Int.one_mul]; rfl]
  refine loop (P := fun k => rL (d + 2) m_X12_toRun 77 [none, some (vI t), some (vI d0), some (vI ((q : Int))), some (vI w), some (vI z), some (vL (pw (10 - (q : Int)) k * pw 10 (9 - k))), none, some (vL (sm (rnF t d0 w q) k)), none, some (vL (sm (rnF t d0 w q) k)), none, some (vI (((nnF (rnF t d0 w q) k : Nat) : Int))), some (vI ((k : Int))), none] [] dd sh g K) (n := 9) ?_ ?_ 0 (by omega)
  · have hb := sm_bound (f := rnF t d0 w q) (n := 9) (B := 100000000 * 199980) fun k hk => (rnF_b ht hd.1 hw hq hk).2.2
    have hn := nnF_le (rnF t d0 w q) 9
    obtain ⟨x, hx⟩ := Int.eq_ofNat_of_zero_le hb.1
    have e10 : pw 10 9 = ((1000000000 : Nat) : Int) := by decide +kernel
    refine r_X12_toRun_77 ⟨⟨by omega, by omega⟩, fun _ => ⟨⟨by omega, by omega⟩, fun h0 => ?_, fun h0 => ⟨⟨by omega, by omega⟩, ?_⟩⟩, fun h => absurd h (by omega)⟩
    · refine s_X12_tens (by decide) (by decide) ?_
      rw [show ((9 : Int)).toNat = 9 from rfl, hx, e10]
      unfold ansOf at hK
      rw [if_neg h0, hx, e10] at hK
      refine ⟨fun h2 => ?_, fun h2 => ?_⟩
      · rw [if_neg h2] at hK
        exact s_X12_part (by omega) (by decide) (Or.inl rfl) hK
      · rw [if_pos h2] at hK
        exact s_X12_part (by omega) (by decide) (Or.inr rfl) hK
    · unfold ansOf at hK
      rw [if_pos h0] at hK; exact hK
  · intro k hk ih
    obtain ⟨b1, b2, b3⟩ := rnF_b (t := t) (d := d0) (w := w) (q := q) ht hd.1 hw hq hk
    obtain ⟨r1, r2, r3⟩ := rc_dec q hq k hk
    have h3 : 0 ≤ d0 * (k : Int) ∧ d0 * (k : Int) ≤ 999 * 9 := ⟨Int.mul_nonneg hd.1 (by omega), Int.mul_le_mul hd.2 (by omega) (by omega) (by decide)⟩
    have hb := sm_bound (f := rnF t d0 w q) (n := k) (B := 100000000 * 199980) fun j hj => (rnF_b ht hd.1 hw hq (by omega)).2.2
    have hc : (k : Int) * d0 = d0 * (k : Int) := Int.mul_comm _ _
    have etd : (10 * (pw (10 - (q : Int)) k * pw 10 (8 - k))).tdiv 10 = pw (10 - (q : Int)) k * pw 10 (8 - k) := by
      rw [Int.tdiv_eq_ediv_of_nonneg (by omega)]; omega
    have key : ∀ T : Int, T = tkF2 t d0 k → (10 * (pw (10 - (q : Int)) k * pw 10 (8 - k))) * T + ((pw (10 - (q : Int)) k * pw 10 (8 - k)) * (q : Int)) * w = rnF t d0 w q k := by
      intro T hT
      unfold rnF r8
      rw [hT, Int.mul_add, Int.mul_assoc _ (q : Int) w, Int.mul_comm 10 (pw (10 - (q : Int)) k * pw 10 (8 - k)), Int.mul_assoc _ 10]
    have fin : ∀ X : Int, X = rnF t d0 w q k → (i64 (sm (rnF t d0 w q) k + X)) ∧ (i64 (sm (rnF t d0 w q) k)) ∧ (i32 (lcmpv (sm (rnF t d0 w q) k + X) (sm (rnF t d0 w q) k))) ∧ ((0 < lcmpv (sm (rnF t d0 w q) k + X) (sm (rnF t d0 w q) k) → rL (d + 2) m_X12_toRun 77 [none, some (vI t), some (vI d0), some (vI ((q : Int))), some (vI w), some (vI z), some (vL ((pw (10 - (q : Int)) k * pw 10 (8 - k)) * (10 - (q : Int)))), none, some (vL (sm (rnF t d0 w q) k + X)), none, some (vL (sm (rnF t d0 w q) k + X)), none, some (vI ((k : Int) + 1)), some (vI ((k : Int) + 1)), none] [] dd sh g K) ∧ (lcmpv (sm (rnF t d0 w q) k + X) (sm (rnF t d0 w q) k) ≤ 0 → rL (d + 2) m_X12_toRun 77 [none, some (vI t), some (vI d0), some (vI ((q : Int))), some (vI w), some (vI z), some (vL ((pw (10 - (q : Int)) k * pw 10 (8 - k)) * (10 - (q : Int)))), none, some (vL (sm (rnF t d0 w q) k + X)), none, some (vL (sm (rnF t d0 w q) k)), none, some (vI (((nnF (rnF t d0 w q) k : Nat) : Int))), some (vI ((k : Int) + 1)), none] [] dd sh g K)) := by
      intro X hX
      subst hX
      simp only [lcmp_le, lcmp_gt]
      rw [r3]
      refine ⟨⟨by omega, by omega⟩, ⟨by omega, by omega⟩, lcmp32, fun h => ?_, fun h => ?_⟩
      · rw [show nnF (rnF t d0 w q) (k + 1) = k + 1 from if_pos (by omega)] at ih
        exact ih
      · have e0 : rnF t d0 w q k = 0 := by omega
        rw [show nnF (rnF t d0 w q) (k + 1) = nnF (rnF t d0 w q) k from if_neg (by omega), show sm (rnF t d0 w q) (k + 1) = sm (rnF t d0 w q) k + rnF t d0 w q k from rfl, e0, Int.add_zero] at ih
        rw [e0, Int.add_zero]
        exact ih
    refine r_X12_toRun_77 ?_
    rw [r2, etd]
    refine ⟨⟨by omega, by omega⟩, fun h => absurd h (by omega), fun _ => ⟨⟨by omega, by omega⟩, fun h => ?_, fun h => ?_⟩⟩
    · exact ⟨⟨by omega, by omega⟩, ⟨by omega, by omega⟩, ⟨by omega, by omega⟩, ⟨by omega, by omega⟩, fin _ (key _ (by unfold tkF2; omega))⟩
    · exact ⟨⟨by omega, by omega⟩, ⟨by omega, by omega⟩, ⟨by omega, by omega⟩, ⟨by omega, by omega⟩, fin _ (key _ (by unfold tkF2; omega))⟩
set_option maxRecDepth 8000 in
theorem sim_toRun : S_toRun := by
  intro dd sh g hI a1 a2 a3 a4 a5 h1 h2 h3 h4 h5
  unfold SimL
  refine mkL (ls := [some (vR 1), some (vI a1), some (vI a2), some (vI a3), some (vI a4), some (vI a5)]) rfl rfl rfl rfl rfl (r_X11_toRun_0 ?_)
  by_cases c : (0 ≤ a1 ∧ a1 ≤ 9999) ∧ (0 ≤ a2 ∧ a2 ≤ 999) ∧ (0 ≤ a3 ∧ a3 ≤ 10) ∧ (0 ≤ a4 ∧ a4 ≤ 9999) ∧ 0 ≤ a5 ∧ a5 ≤ 2
  · obtain ⟨q, rfl⟩ := Int.eq_ofNat_of_zero_le (show 0 ≤ a3 by omega)
    refine ⟨h1, fun h => absurd h (by omega), fun _ => ⟨fun h => absurd h (by omega), fun _ => ⟨h2, fun h => absurd h (by omega), fun _ => ⟨fun h => absurd h (by omega), fun _ => ⟨h3, fun h => absurd h (by omega), fun _ => ⟨fun _ => ⟨h4, fun h => absurd h (by omega), fun _ => ⟨fun h => absurd h (by omega), fun _ => ⟨h5, fun h => absurd h (by omega), fun _ => ⟨fun _ => ?_, fun h => absurd h (by omega)⟩⟩⟩⟩, fun h => absurd h (by omega)⟩⟩⟩⟩⟩⟩
    refine s_X4_bestRun c.1 c.2.1 (by omega) c.2.2.2.1 c.2.2.2.2 ?_
    refine s_X12_toRun c.1 c.2.1 (by omega) c.2.2.2.1 c.2.2.2.2 ⟨rfl, ?_, hI⟩
    have hb := sm_bound (f := rnF a1 a2 a4 q) (n := 9) (B := 100000000 * 199980) fun k hk => (rnF_b c.1 c.2.1.1 c.2.2.2.1 (by omega) hk).2.2
    have hn := nnF_le (rnF a1 a2 a4 q) 9
    have h10 := pw10_9 9 (by decide)
    exact ansOf_b ⟨by omega, by omega⟩ (by omega) (by omega)
  · have hr2 : cL 200 m_X12_toRun [vR 134, vI a1, vI a2, vI a3, vI a4, vI a5] dd sh g (fun r' g3 => -1 = r' ∧ i64 (-1) ∧ Inv dd sh g3) := by
      refine mkL (ls := [some (vR 134), some (vI a1), some (vI a2), some (vI a3), some (vI a4), some (vI a5), none, none, none, none, none, none, none, none, none]) rfl rfl rfl rfl rfl (r_X12_toRun_0 ?_)
      repeat' (first
        | (refine imp_mk ?_; intro hh; first | contradiction | (exfalso; omega) | skip)
        | (refine s_X12_isIn (by omega) (by omega) (by omega) (fun _ _ => ?_) (fun _ => ?_))
        | (exact hI)
        | (exact absurd ⟨⟨by omega, by omega⟩, ⟨by omega, by omega⟩, ⟨by omega, by omega⟩, ⟨by omega, by omega⟩, by omega, by omega⟩ c)
        | refine And.intro ?_ ?_
        | omega)
    repeat' (first
      | (refine imp_mk ?_; intro hh; first | contradiction | (exfalso; omega) | skip)
      | (exact hr2)
      | (exact absurd ⟨⟨by omega, by omega⟩, ⟨by omega, by omega⟩, ⟨by omega, by omega⟩, ⟨by omega, by omega⟩, by omega, by omega⟩ c)
      | refine And.intro ?_ ?_
      | omega)
