-- a claque, cuts
def ch (n : Nat) : Nat → Int
  | 0 => 1
  | k + 1 => (ch n k * ((n : Int) - (k : Int))).tdiv ((k : Int) + 1)
theorem ch_dec : ∀ n : Nat, n < 18 → ∀ k : Nat, k < 18 → k ≤ n → 0 ≤ ch n k ∧ ch n k ≤ 24310 := by decide +kernel
def clF (n q : Nat) (k : Nat) : Int := if (n : Int) < (k : Int) * 2 then ch n k * pw (q : Int) k * pw (10 - (q : Int)) (n - k) else 0
theorem cl_dec : ∀ n : Nat, n < 18 → ∀ q : Nat, q < 11 → 0 ≤ sm (clF n q) (n + 1) ∧ sm (clF n q) (n + 1) < 1000000000000000000 := by decide +kernel
theorem ch_b {n k : Nat} (hn : n < 18) (hk : k ≤ n) : (0 ≤ ch n k ∧ ch n k ≤ 24310) ∧ i64 (ch n k * ((n : Int) - (k : Int))) := by
  have h := ch_dec n hn k (by omega) hk
  have h2 : 0 ≤ ch n k * ((n : Int) - (k : Int)) ∧ ch n k * ((n : Int) - (k : Int)) ≤ 24310 * 17 := ⟨Int.mul_nonneg h.1 (by omega), Int.mul_le_mul h.2 (by omega) (by omega) (by decide)⟩
  exact ⟨h, by omega, by omega⟩
theorem s_X4_oddsOfMost {d : Nat} {dd : List (Nat × Nat)} {sh : Nat → Nat → Nat} {g : Nat → Nat → Int} {K : Int → (Nat → Nat → Int) → Prop} {n q : Nat} {z : Int} (hn : n < 18) (hq : q < 11) (hz : z = 0 ∨ z = 1) (hK : K (prt (sm (clF n q) (n + 1)).toNat (pw 10 n).toNat z) g) : cL (d + 2) m_X4_oddsOfMost [(vR 122), (vI ((n : Int))), (vI ((q : Int))), (vI z)] dd sh g K := by
  refine mkL (ls := [some (vR 122), some (vI ((n : Int))), some (vI ((q : Int))), some (vI z), none, none, none, none, none]) rfl rfl rfl rfl rfl (r_X4_oddsOfMost_0 ?_)
  refine loop (P := fun k => rL (d + 1) m_X4_oddsOfMost 9 [none, some (vI ((n : Int))), some (vI ((q : Int))), some (vI z), some (vL (sm (clF n q) k)), none, some (vL (ch n k)), none, some (vI ((k : Int)))] [] dd sh g K) (n := n + 1) ?_ ?_ 0 (by omega)
  · have hS := cl_dec n hn q hq
    have h10 := pw10 n (by omega)
    obtain ⟨x, hx⟩ := Int.eq_ofNat_of_zero_le hS.1
    obtain ⟨y, hy⟩ := Int.eq_ofNat_of_zero_le (show 0 ≤ pw 10 n by omega)
    refine r_X4_oddsOfMost_9 ⟨⟨by omega, by omega⟩, ⟨by omega, by omega⟩, fun _ => ?_, fun h => absurd h (by omega)⟩
    refine s_X11_power (by omega) (by omega) ?_
    rw [show ((n : Int)).toNat = n from rfl, hx, hy]
    rw [hx, hy] at hK
    exact s_X11_lowestTerms (by omega) (by omega) hz hK
  · intro k hk ih
    obtain ⟨hc, hi⟩ := ch_b hn (show k ≤ n by omega)
    have ihx : ∀ x, x = clF n q k → rL (d + 1) m_X4_oddsOfMost 9 [none, some (vI ((n : Int))), some (vI ((q : Int))), some (vI z), some (vL (sm (clF n q) k + x)), none, some (vL ((ch n k * ((n : Int) - (k : Int))).tdiv ((k : Int) + 1))), none, some (vI ((k : Int) + 1))] [] dd sh g K := fun x hx => by rw [hx]; exact ih
    refine r_X4_oddsOfMost_9 ⟨⟨by omega, by omega⟩, ⟨by omega, by omega⟩, fun h => absurd h (by omega), fun _ => ⟨⟨by omega, by omega⟩, fun h => ?_, fun h => ?_⟩⟩
    · refine ⟨⟨by omega, by omega⟩, ⟨by omega, by omega⟩, hi, ⟨by omega, by omega⟩, by omega, ?_⟩
      have := ihx 0 (by unfold clF; rw [if_neg (by omega)])
      rw [Int.add_zero] at this; exact this
    · refine ⟨⟨by omega, by omega⟩, s_X11_power (by omega) (by omega) ⟨⟨by omega, by omega⟩, s_X11_power (by omega) (by omega) ⟨⟨by omega, by omega⟩, ⟨by omega, by omega⟩, hi, ⟨by omega, by omega⟩, by omega, ?_⟩⟩⟩
      rw [show ((k : Int)).toNat = k from rfl, show ((n : Int) - (k : Int)).toNat = n - k by omega]
      exact ihx _ (by unfold clF; rw [if_pos (by omega)])
def hbF (x y : Int) (k : Nat) (e : Nat) : Int := if e < k then x else y
theorem pm_hb (x y : Int) (k : Nat) : ∀ m, pm (hbF x y k) (k + m) = pw x k * pw y m := by
  have h1 : ∀ j, j ≤ k → pm (hbF x y k) j = pw x j := by
    intro j
    induction j with
    | zero => intro _; rfl
    | succ j ih => intro hj; show pm (hbF x y k) j * hbF x y k j = pw x j * x; rw [ih (by omega), show hbF x y k j = x from if_pos (by omega)]
  intro m
  induction m with
  | zero => show pm (hbF x y k) k = pw x k * 1; rw [h1 k (Nat.le_refl _), Int.mul_one]
  | succ m ih =>
    show pm (hbF x y k) (k + m) * hbF x y k (k + m) = pw x k * (pw y m * y)
    rw [ih, show hbF x y k (k + m) = y from if_neg (by omega), Int.mul_assoc]
theorem s_X12_claque {d : Nat} {dd : List (Nat × Nat)} {sh : Nat → Nat → Nat} {g : Nat → Nat → Int} {K : Int → (Nat → Nat → Int) → Prop} {n q : Nat} {z : Int} (hn : 1 ≤ n ∧ n < 18) (hodd : n % 2 = 1) (hq : q < 11) (hz : z = 0 ∨ z = 1) (hK : K (prt (sm (clF n q) (n + 1)).toNat (pw 10 n).toNat z) g) : cL (d + 3) m_X12_claque [(vR 134), (vI ((n : Int))), (vI ((q : Int))), (vI z)] dd sh g K := by
  refine mkL (ls := [some (vR 134), some (vI ((n : Int))), some (vI ((q : Int))), some (vI z), none, none, none, none, none, none, none, none]) rfl rfl rfl rfl rfl (r_X12_claque_0 ?_)
  refine s_X12_isIn (by omega) (by omega) (by omega) (fun _ _ => ⟨⟨by decide, by decide⟩, fun h => absurd h (by decide), fun _ => ?_⟩) (fun h => absurd h (by omega))
  rw [Int.tmod_eq_emod_of_nonneg (by omega)]
  refine ⟨⟨by omega, by omega⟩, ⟨by omega, by omega⟩, fun h => absurd h (by omega), fun _ => ?_⟩
  refine s_X12_isIn (by omega) (by omega) (by omega) (fun _ _ => ⟨⟨by decide, by decide⟩, fun _ => ?_, fun h => absurd h (by decide)⟩) (fun h => absurd h (by omega))
  refine loop (P := fun k => rL (d + 2) m_X12_claque 39 [none, some (vI ((n : Int))), some (vI ((q : Int))), some (vI z), some (vL (sm (clF n q) k)), none, some (vL (ch n k)), none, some (vI ((k : Int))), none, none, none] [] dd sh g K) (n := n + 1) ?_ ?_ 0 (by omega)
  · have hS := cl_dec n hn.2 q hq
    have h10 := pw10 n (by omega)
    obtain ⟨x, hx⟩ := Int.eq_ofNat_of_zero_le hS.1
    obtain ⟨y, hy⟩ := Int.eq_ofNat_of_zero_le (show 0 ≤ pw 10 n by omega)
    refine r_X12_claque_39 ⟨⟨by omega, by omega⟩, ⟨by omega, by omega⟩, fun _ => ?_, fun h => absurd h (by omega)⟩
    refine s_X12_tens (by omega) (by omega) ?_
    rw [show ((n : Int)).toNat = n from rfl, hx, hy]
    rw [hx, hy] at hK
    exact s_X12_part (by omega) (by omega) hz hK
  · intro k hk ih
    obtain ⟨hc, hi⟩ := ch_b hn.2 (show k ≤ n by omega)
    have ihx : ∀ x, x = clF n q k → rL (d + 2) m_X12_claque 39 [none, some (vI ((n : Int))), some (vI ((q : Int))), some (vI z), some (vL (sm (clF n q) k + x)), none, some (vL ((ch n k * ((n : Int) - (k : Int))).tdiv ((k : Int) + 1))), none, some (vI ((k : Int) + 1)), none, none, none] [] dd sh g K := fun x hx => by rw [hx]; exact ih
    refine r_X12_claque_39 ⟨⟨by omega, by omega⟩, ⟨by omega, by omega⟩, fun h => absurd h (by omega), fun _ => ?_⟩
    have hin := loop (P := fun e => rL (d + 2) m_X12_claque 52 [none, some (vI ((n : Int))), some (vI ((q : Int))), some (vI z), some (vL (sm (clF n q) k)), none, some (vL (ch n k)), none, some (vI ((k : Int))), some (vL (ch n k * pm (hbF (q : Int) (10 - (q : Int)) k) e)), none, some (vI ((e : Int)))] [] dd sh g K) (n := n) ?_ ?_ 0 (by omega)
    · rw [show pm (hbF (q : Int) (10 - (q : Int)) k) 0 = 1 from rfl, Int.mul_one] at hin
      exact hin
    · refine r_X12_claque_52 ⟨⟨by omega, by omega⟩, ⟨by omega, by omega⟩, fun _ => ⟨⟨by omega, by omega⟩, fun h => ?_, fun h => ?_⟩, fun h => absurd h (by omega)⟩
      · refine ⟨⟨by omega, by omega⟩, ⟨by omega, by omega⟩, hi, ⟨by omega, by omega⟩, by omega, ?_⟩
        have := ihx 0 (by unfold clF; rw [if_neg (by omega)])
        rw [Int.add_zero] at this; exact this
      · refine ⟨⟨by omega, by omega⟩, ⟨by omega, by omega⟩, hi, ⟨by omega, by omega⟩, by omega, ?_⟩
        refine ihx _ ?_
        unfold clF
        have := pm_hb (q : Int) (10 - (q : Int)) k (n - k)
        rw [show k + (n - k) = n by omega] at this
        rw [if_pos (by omega), this, Int.mul_assoc]
    · intro e he ihe
      have ihex : ∀ x, x = hbF (q : Int) (10 - (q : Int)) k e → rL (d + 2) m_X12_claque 52 [none, some (vI ((n : Int))), some (vI ((q : Int))), some (vI z), some (vL (sm (clF n q) k)), none, some (vL (ch n k)), none, some (vI ((k : Int))), some (vL (ch n k * pm (hbF (q : Int) (10 - (q : Int)) k) e * x)), none, some (vI ((e : Int) + 1))] [] dd sh g K := fun x hx => by rw [hx, Int.mul_assoc]; exact ihe
      exact r_X12_claque_52 ⟨⟨by omega, by omega⟩, ⟨by omega, by omega⟩, fun h => absurd h (by omega), fun _ => ⟨⟨by omega, by omega⟩, fun h => ⟨⟨by omega, by omega⟩, ihex _ (by unfold hbF; rw [if_neg (by omega)])⟩, fun h => ⟨⟨by omega, by omega⟩, ihex _ (by unfold hbF; rw [if_pos (by omega)])⟩⟩⟩
set_option maxRecDepth 8000 in
theorem sim_claque : S_claque := by
  intro dd sh g hI a1 a2 a3 h1 h2 h3
  unfold SimL
  refine mkL (ls := [some (vR 1), some (vI a1), some (vI a2), some (vI a3)]) rfl rfl rfl rfl rfl (r_X11_claque_0 ?_)
  by_cases c : (1 ≤ a1 ∧ a1 ≤ 17) ∧ a1 % 2 = 1 ∧ (0 ≤ a2 ∧ a2 ≤ 10)
  · obtain ⟨n, rfl⟩ := Int.eq_ofNat_of_zero_le (show 0 ≤ a1 by omega)
    obtain ⟨q, rfl⟩ := Int.eq_ofNat_of_zero_le c.2.2.1
    rw [iand_one (by omega) (by omega)]
    refine ⟨h1, fun h => absurd h (by omega), fun _ => ⟨fun h => absurd h (by omega), fun _ => ⟨⟨by omega, by omega⟩, fun h => absurd h (by omega), fun _ => ⟨h2, fun h => absurd h (by omega), fun _ => ⟨fun _ => ?_, fun h => absurd h (by omega)⟩⟩⟩⟩⟩
    refine s_X4_oddsOfMost (by omega) (by omega) h3 ?_
    refine s_X12_claque (by omega) (by omega) (by omega) h3 ⟨rfl, ?_, hI⟩
    have hS := cl_dec n (by omega) q (by omega)
    have h10 := pw10 n (by omega)
    exact prt_b (by omega) (by omega) h3
  · have hr2 : cL 200 m_X12_claque [vR 134, vI a1, vI a2, vI a3] dd sh g (fun r' g3 => -1 = r' ∧ i64 (-1) ∧ Inv dd sh g3) := by
      refine mkL (ls := [some (vR 134), some (vI a1), some (vI a2), some (vI a3), none, none, none, none, none, none, none, none]) rfl rfl rfl rfl rfl (r_X12_claque_0 ?_)
      by_cases h0 : 0 ≤ a1
      · rw [Int.tmod_eq_emod_of_nonneg (a := a1) h0]
        repeat' (first
          | (refine imp_mk ?_; intro hh; first | contradiction | (exfalso; omega) | skip)
          | (refine s_X12_isIn (by omega) (by omega) (by omega) (fun _ _ => ?_) (fun _ => ?_))
          | (exact hI)
          | (exact absurd ⟨⟨by omega, by omega⟩, by omega, by omega, by omega⟩ c)
          | refine And.intro ?_ ?_
          | omega)
      · refine s_X12_isIn (by omega) (by omega) (by omega) (fun _ _ => absurd h0 (by omega)) (fun _ => ⟨⟨by decide, by decide⟩, fun _ => ⟨rfl, ⟨by decide, by decide⟩, hI⟩, fun h => absurd rfl h⟩)
    by_cases h0 : 0 ≤ a1
    · rw [iand_one h0 (by omega)]
      repeat' (first
        | (refine imp_mk ?_; intro hh; first | contradiction | (exfalso; omega) | skip)
        | (exact hr2)
        | (exact absurd ⟨⟨by omega, by omega⟩, by omega, by omega, by omega⟩ c)
        | refine And.intro ?_ ?_
        | omega)
    · exact ⟨h1, fun _ => hr2, fun h => absurd h (by omega)⟩
-- cuts
def cuF (w : Nat → Int) (set : Int) (c : Nat) : Int := if bt set c = 0 then 0 else w c
def cuN (w : Nat → Int) (m set : Nat) : Int := sm (cuF w set) m
theorem cuN_b {w : Nat → Int} {m : Nat} (hw : ∀ c, c < m → 0 ≤ w c ∧ w c ≤ 9) (hm : m ≤ 7) (set : Nat) : 0 ≤ cuN w m set ∧ cuN w m set ≤ 63 := by
  have := sm_bound (f := cuF w set) (n := m) (B := 9) fun k hk => by
    have := hw k hk
    unfold cuF; split <;> omega
  unfold cuN
  omega
theorem cuN_0 (w : Nat → Int) (m : Nat) : cuN w m 0 = 0 := sm_zero (n := 0) (by omega) fun k _ _ => if_pos (bt_zero (q := 0) (by decide) (by decide) (by omega))
def cuB (H L : Nat → Int) (mm : Int) (s t : Nat) : Prop := L s ≤ mm ∧ (H t < H s ∨ (H s = H t ∧ L s < L t))
noncomputable def cuS (H L : Nat → Int) (mm : Int) : Nat → Nat
  | 0 => 0
  | k + 1 => @ite Nat (cuB H L mm (k + 1) (cuS H L mm k)) (Classical.propDecidable _) (k + 1) (cuS H L mm k)
theorem cuS_le (H L : Nat → Int) (mm : Int) (k : Nat) : cuS H L mm k ≤ k := by
  induction k with
  | zero => exact Nat.le_refl _
  | succ k ih =>
    by_cases h : cuB H L mm (k + 1) (cuS H L mm k)
    · rw [show cuS H L mm (k + 1) = k + 1 from if_pos h]; exact Nat.le_refl _
    · rw [show cuS H L mm (k + 1) = cuS H L mm k from if_neg h]; omega
theorem pow_7 {n : Nat} (h : n ≤ 7) : 1 ≤ 2 ^ n ∧ 2 ^ n ≤ 128 := ⟨Nat.pow_pos (by decide), Nat.pow_le_pow_right (by decide) h⟩
theorem s_X4_hottestSet {d : Nat} {dd : List (Nat × Nat)} {sh : Nat → Nat → Nat} {g : Nat → Nat → Int} {K : Int → (Nat → Nat → Int) → Prop} {a : Nat → Int} {m : Nat} {v1 : Int} (hS : RSc g a) (hm : a 1 = m) (h1 : i32 v1) (hK : K ((cuS (cuN (g 8) m) (cuN (g 9) m) v1 (2 ^ m - 1) : Nat) : Int) g) : cI (d + 2) m_X4_hottestSet [(vR 122), (vI v1)] dd sh g K := by
  have em := hS.m
  have hs2 := pow_7 (n := m) (by omega)
  have e2n : (1 : Int) * 2 ^ (g 3 7).toNat = ((2 ^ m : Nat) : Int) := by rw [Int.one_mul, show (g 3 7).toNat = m by omega, two_pow_cast]
  have hH := cuN_b (w := g 8) (m := m) (fun c hc => (hS.cb c (by omega)).1) (by omega)
  have hL := cuN_b (w := g 9) (m := m) (fun c hc => (hS.cb c (by omega)).2) (by omega)
  refine mkI (ls := [some (vR 122), some (vI v1), none, none, none, none, none, none, none]) rfl rfl rfl rfl rfl (r_X4_hottestSet_0 ?_)
  refine loop (P := fun k => ∀ h l : Int, h = cuN (g 8) m (cuS (cuN (g 8) m) (cuN (g 9) m) v1 k) → l = cuN (g 9) m (cuS (cuN (g 8) m) (cuN (g 9) m) v1 k) → rI (d + 1) m_X4_hottestSet 10 [some (vR 122), some (vI v1), some (vI (((cuS (cuN (g 8) m) (cuN (g 9) m) v1 k : Nat) : Int))), some (vI h), some (vI l), some (vI (((k + 1 : Nat) : Int))), none, none, none] [] dd sh g K) (n := 2 ^ m - 1) ?_ ?_ 0 (by omega) 0 0 (cuN_0 _ _).symm (cuN_0 _ _).symm
  · intro h l hh hl
    refine r_X4_hottestSet_10 ?_
    rw [e2n]
    exact ⟨by omega, by omega, ⟨by omega, by omega⟩, ⟨by omega, by omega⟩, fun _ => hK, fun h => absurd h (by omega)⟩
  · intro k hk ih h l hh hl
    have b1 := hH (k + 1)
    have b2 := hL (k + 1)
    have b3 := hH (cuS (cuN (g 8) m) (cuN (g 9) m) v1 k)
    have b4 := hL (cuS (cuN (g 8) m) (cuN (g 9) m) v1 k)
    refine r_X4_hottestSet_10 ?_
    rw [e2n]
    refine ⟨by omega, by omega, ⟨by omega, by omega⟩, ⟨by omega, by omega⟩, fun h => absurd h (by omega), fun _ => ⟨fun h => absurd h (by omega), fun _ => ?_⟩⟩
    refine loop (P := fun j => rI (d + 1) m_X4_hottestSet 41 [some (vR 122), some (vI v1), some (vI (((cuS (cuN (g 8) m) (cuN (g 9) m) v1 k : Nat) : Int))), some (vI h), some (vI l), some (vI (((k + 1 : Nat) : Int))), some (vI (sm (cuF (g 8) ((k + 1 : Nat) : Int)) j)), some (vI (sm (cuF (g 9) ((k + 1 : Nat) : Int)) j)), some (vI ((j : Int)))] [] dd sh g K) (n := m) ?_ ?_ 0 (by omega)
    · have yes : cuB (cuN (g 8) m) (cuN (g 9) m) v1 (k + 1) (cuS (cuN (g 8) m) (cuN (g 9) m) v1 k) → rI (d + 1) m_X4_hottestSet 10 [some (vR 122), some (vI v1), some (vI (((k + 1 : Nat) : Int))), some (vI (cuN (g 8) m (k + 1))), some (vI (cuN (g 9) m (k + 1))), some (vI (((k + 1 : Nat) : Int) + 1)), none, none, none] [] dd sh g K := by
        intro hc
        have e : cuS (cuN (g 8) m) (cuN (g 9) m) v1 (k + 1) = k + 1 := if_pos hc
        have := ih (cuN (g 8) m (k + 1)) (cuN (g 9) m (k + 1)) (by rw [e]) (by rw [e])
        rw [e] at this
        exact this
      have no : ¬ cuB (cuN (g 8) m) (cuN (g 9) m) v1 (k + 1) (cuS (cuN (g 8) m) (cuN (g 9) m) v1 k) → rI (d + 1) m_X4_hottestSet 10 [some (vR 122), some (vI v1), some (vI (((cuS (cuN (g 8) m) (cuN (g 9) m) v1 k : Nat) : Int))), some (vI h), some (vI l), some (vI (((k + 1 : Nat) : Int) + 1)), none, none, none] [] dd sh g K := by
        intro hc
        have e : cuS (cuN (g 8) m) (cuN (g 9) m) v1 (k + 1) = cuS (cuN (g 8) m) (cuN (g 9) m) v1 k := if_neg hc
        have := ih h l (by rw [e]; exact hh) (by rw [e]; exact hl)
        rw [e] at this
        exact this
      unfold cuB at yes no
      refine r_X4_hottestSet_41 ?_
      rw [show sm (cuF (g 8) ((k + 1 : Nat) : Int)) m = cuN (g 8) m (k + 1) from rfl, show sm (cuF (g 9) ((k + 1 : Nat) : Int)) m = cuN (g 9) m (k + 1) from rfl, em.1, hm]
      refine ⟨⟨by omega, by omega⟩, ⟨by omega, by omega⟩, fun _ => ⟨⟨by omega, by omega⟩, h1, fun c1 => no (by omega), fun c1 => ⟨⟨by omega, by omega⟩, ⟨by omega, by omega⟩, fun c2 => yes (by omega), fun c2 => ⟨fun c3 => no (by omega), fun c3 => ⟨⟨by omega, by omega⟩, fun c4 => no (by omega), fun c4 => yes (by omega)⟩⟩⟩⟩, fun h => absurd h (by omega)⟩
    · intro j hj ihj
      have ihx : ∀ x y, x = cuF (g 8) ((k + 1 : Nat) : Int) j → y = cuF (g 9) ((k + 1 : Nat) : Int) j → rI (d + 1) m_X4_hottestSet 41 [some (vR 122), some (vI v1), some (vI (((cuS (cuN (g 8) m) (cuN (g 9) m) v1 k : Nat) : Int))), some (vI h), some (vI l), some (vI (((k + 1 : Nat) : Int))), some (vI (sm (cuF (g 8) ((k + 1 : Nat) : Int)) j + x)), some (vI (sm (cuF (g 9) ((k + 1 : Nat) : Int)) j + y)), some (vI ((j : Int) + 1))] [] dd sh g K := fun x y hx hy => by rw [hx, hy]; exact ihj
      refine r_X4_hottestSet_41 ?_
      rw [em.1, hm, show ((j : Int)).toNat = j from rfl]
      refine ⟨⟨by omega, by omega⟩, ⟨by omega, by omega⟩, fun h => absurd h (by omega), fun _ => ?_⟩
      refine s_X11_hasBit (by omega) (by omega) (by omega) (by omega) fun r e1 e2 e3 => ⟨by omega, fun c => ?_, fun c => ⟨by omega, by omega, ?_⟩⟩
      · refine s_X11_hasBit (by omega) (by omega) (by omega) (by omega) fun r' e1' e2' e3' => ⟨by omega, fun c' => ihx 0 0 (if_pos (by rw [← c, e1]; rfl)).symm (if_pos (by rw [← c, e1]; rfl)).symm, fun c' => absurd (by rw [e1', ← e1]; exact c) c'⟩
      · have hb : ¬ bt ((k + 1 : Nat) : Int) j = 0 := fun hb => c (by rw [e1]; exact hb)
        refine s_X11_hasBit (by omega) (by omega) (by omega) (by omega) fun r' e1' e2' e3' => ⟨by omega, fun c' => absurd (by rw [e1, ← e1']; exact c') c, fun c' => ?_⟩
        exact ihx _ _ (if_neg hb).symm (if_neg hb).symm
theorem s_X12_sumOf {d : Nat} {dd : List (Nat × Nat)} {sh : Nat → Nat → Nat} {g : Nat → Nat → Int} {K : Int → (Nat → Nat → Int) → Prop} {set m : Nat} {f : Nat} (hA : AB (g 135)) (hm : g 135 1 = m) (hset : set < 128) (hf : f ≤ 1) (hK : K (cuN (fun c => g 135 (58 + 4 * c + f)) m set) g) : cI (d + 2) m_X12_sumOf [(vR 134), (vI ((set : Int))), (vI ((f : Int)))] dd sh g K := by
  have em := hA.m
  refine mkI (ls := [some (vR 134), some (vI ((set : Int))), some (vI ((f : Int))), none, none]) rfl rfl rfl rfl rfl (r_X12_sumOf_0 ?_)
  refine loop (P := fun j => rI (d + 1) m_X12_sumOf 5 [some (vR 134), some (vI ((set : Int))), some (vI ((f : Int))), some (vI (sm (cuF (fun c => g 135 (58 + 4 * c + f)) (set : Int)) j)), some (vI ((j : Int)))] [] dd sh g K) (n := m) ?_ ?_ 0 (by omega)
  · refine r_X12_sumOf_5 ?_
    rw [hm]
    exact ⟨⟨by omega, by omega⟩, ⟨by omega, by omega⟩, fun _ => hK, fun h => absurd h (by omega)⟩
  · intro j hj ihj
    have ihx : ∀ x, x = cuF (fun c => g 135 (58 + 4 * c + f)) (set : Int) j → rI (d + 1) m_X12_sumOf 5 [some (vR 134), some (vI ((set : Int))), some (vI ((f : Int))), some (vI (sm (cuF (fun c => g 135 (58 + 4 * c + f)) (set : Int)) j + x)), some (vI ((j : Int) + 1))] [] dd sh g K := fun x hx => by rw [hx]; exact ihj
    refine r_X12_sumOf_5 ?_
    rw [hm]
    refine ⟨⟨by omega, by omega⟩, ⟨by omega, by omega⟩, fun h => absurd h (by omega), fun _ => ?_⟩
    refine s_X12_has (by omega) (by omega) (by omega) (by omega) fun r e1 e2 e3 => ⟨by omega, fun c => ihx 0 (if_pos (by rw [← c, e1]; rfl)).symm, fun c => ?_⟩
    have hb : ¬ bt (set : Int) j = 0 := fun hb => c (by rw [e1]; exact hb)
    exact s_ofI (j := 58 + 4 * j + f) (by omega) (by omega) (ihx _ (if_neg hb).symm)
theorem s_X12_cuts {d : Nat} {dd : List (Nat × Nat)} {sh : Nat → Nat → Nat} {g : Nat → Nat → Int} {K : Int → (Nat → Nat → Int) → Prop} {m : Nat} {v1 : Int} (hA : AB (g 135)) (hm : g 135 1 = m) (h1 : 0 ≤ v1 ∧ v1 ≤ 99) (hK : K ((cuS (cuN (fun c => g 135 (58 + 4 * c + 0)) m) (cuN (fun c => g 135 (58 + 4 * c + 1)) m) v1 (2 ^ m - 1) : Nat) : Int) g) : cI (d + 3) m_X12_cuts [(vR 134), (vI v1)] dd sh g K := by
  have em := hA.m
  have hs2 := pow_7 (n := m) (by omega)
  have e2n : (1 : Int) * 2 ^ (g 135 1).toNat = ((2 ^ m : Nat) : Int) := by rw [Int.one_mul, show (g 135 1).toNat = m by omega, two_pow_cast]
  generalize hHd : cuN (fun c => g 135 (58 + 4 * c + 0)) m = H at hK
  generalize hLd : cuN (fun c => g 135 (58 + 4 * c + 1)) m = L at hK
  have hH : ∀ s, 0 ≤ H s ∧ H s ≤ 63 := fun s => by rw [← hHd]; exact cuN_b (fun c hc => (hA.cc c (by omega) (by omega)).1) (by omega) s
  have hL : ∀ s, 0 ≤ L s ∧ L s ≤ 63 := fun s => by
    rw [← hLd]
    exact cuN_b (fun c hc => by have := (hA.cc c (by omega) (by omega)).2.1; rw [show 58 + 4 * c + 1 = 59 + 4 * c by omega]; exact this) (by omega) s
  have sH : ∀ {K' : Int → (Nat → Nat → Int) → Prop} (s : Nat), s < 128 → K' (H s) g → cI (d + 2) m_X12_sumOf [vR 134, vI (s : Int), vI 0] dd sh g K' := fun s hs h => s_X12_sumOf (f := 0) hA hm hs (by decide) (by rw [hHd]; exact h)
  have sL : ∀ {K' : Int → (Nat → Nat → Int) → Prop} (s : Nat), s < 128 → K' (L s) g → cI (d + 2) m_X12_sumOf [vR 134, vI (s : Int), vI 1] dd sh g K' := fun s hs h => s_X12_sumOf (f := 1) hA hm hs (by decide) (by rw [hLd]; exact h)
  refine mkI (ls := [some (vR 134), some (vI v1), none, none, none]) rfl rfl rfl rfl rfl (r_X12_cuts_0 ?_)
  refine s_X12_isIn (by omega) (by omega) (by omega) (fun _ _ => ⟨⟨by decide, by decide⟩, fun _ => ?_, fun h => absurd h (by decide)⟩) (fun h => absurd h (by omega))
  refine loop (P := fun k => rI (d + 2) m_X12_cuts 16 [some (vR 134), some (vI v1), some (vI (((cuS H L v1 k : Nat) : Int))), some (vI (((k + 1 : Nat) : Int))), none] [] dd sh g K) (n := 2 ^ m - 1) ?_ ?_ 0 (by omega)
  · refine r_X12_cuts_16 ?_
    rw [e2n]
    exact ⟨by omega, by omega, ⟨by omega, by omega⟩, ⟨by omega, by omega⟩, fun _ => hK, fun h => absurd h (by omega)⟩
  · intro k hk ih
    have b1 := hH (k + 1)
    have b2 := hL (k + 1)
    have b3 := hH (cuS H L v1 k)
    have b4 := hL (cuS H L v1 k)
    have hle := cuS_le H L v1 k
    have yes : cuB H L v1 (k + 1) (cuS H L v1 k) → rI (d + 2) m_X12_cuts 16 [some (vR 134), some (vI v1), some (vI (((k + 1 : Nat) : Int))), some (vI (((k + 1 : Nat) : Int) + 1)), none] [] dd sh g K := by
      intro hc
      rw [show cuS H L v1 (k + 1) = k + 1 from if_pos hc] at ih
      exact ih
    have no : ¬ cuB H L v1 (k + 1) (cuS H L v1 k) → rI (d + 2) m_X12_cuts 16 [some (vR 134), some (vI v1), some (vI (((cuS H L v1 k : Nat) : Int))), some (vI (((k + 1 : Nat) : Int) + 1)), none] [] dd sh g K := by
      intro hc
      rw [show cuS H L v1 (k + 1) = cuS H L v1 k from if_neg hc] at ih
      exact ih
    unfold cuB at yes no
    refine r_X12_cuts_16 ?_
    rw [e2n]
    refine ⟨by omega, by omega, ⟨by omega, by omega⟩, ⟨by omega, by omega⟩, fun h => absurd h (by omega), fun _ => ?_⟩
    refine sL (k + 1) (by omega) ⟨⟨by omega, by omega⟩, ⟨by omega, by omega⟩, fun c1 => ?_, fun c1 => no (by omega)⟩
    refine sH (k + 1) (by omega) (sH (cuS H L v1 k) (by omega) ⟨⟨by omega, by omega⟩, fun c2 => yes (by omega), fun c2 => ⟨fun c3 => no (by omega), fun c3 => ?_⟩⟩)
    refine sL (k + 1) (by omega) (sL (cuS H L v1 k) (by omega) ⟨⟨by omega, by omega⟩, ⟨by omega, by omega⟩, fun c4 => no (by omega), fun c4 => yes (by omega)⟩)
theorem cuN_congr {w w' : Nat → Int} {m : Nat} (h : ∀ c, c < m → w c = w' c) : cuN w m = cuN w' m := by
  funext s
  refine sm_congr fun c hc => ?_
  unfold cuF
  rw [h c hc]
theorem sim_cuts : S_cuts := by
  intro dd sh g hI a1 h1
  have hA := hI.s.ab
  have em := hA.m
  obtain ⟨m, hm⟩ := Int.eq_ofNat_of_zero_le em.1
  unfold SimI
  refine mkI (ls := [some (vR 1), some (vI a1)]) rfl rfl rfl rfl rfl (r_X11_cuts_0 ?_)
  by_cases c : 0 ≤ a1 ∧ a1 ≤ 99
  · refine ⟨h1, fun h => absurd h (by omega), fun _ => ⟨fun _ => ?_, fun h => absurd h (by omega)⟩⟩
    refine s_X4_hottestSet hI.s hm h1 ?_
    have e1 : cuN (g 8) m = cuN (fun c => g 135 (58 + 4 * c + 0)) m := cuN_congr fun c hc => (hI.s.cc c (by omega) (by omega)).1
    have e2 : cuN (g 9) m = cuN (fun c => g 135 (58 + 4 * c + 1)) m := cuN_congr fun c hc => by
      rw [show 58 + 4 * c + 1 = 59 + 4 * c by omega]; exact (hI.s.cc c (by omega) (by omega)).2.1
    rw [e1, e2]
    refine s_X12_cuts hA hm c ⟨rfl, ?_, hI⟩
    have hle := cuS_le (cuN (fun c => g 135 (58 + 4 * c + 0)) m) (cuN (fun c => g 135 (58 + 4 * c + 1)) m) a1 (2 ^ m - 1)
    have hs2 := pow_7 (n := m) (by omega)
    exact ⟨by omega, by omega⟩
  · have hr2 : cI 200 m_X12_cuts [vR 134, vI a1] dd sh g (fun r' g3 => -1 = r' ∧ i32 (-1) ∧ Inv dd sh g3) := by
      refine mkI (ls := [some (vR 134), some (vI a1), none, none, none]) rfl rfl rfl rfl rfl (r_X12_cuts_0 ?_)
      exact s_X12_isIn (by omega) (by omega) (by omega) (fun _ _ => absurd c (by omega)) (fun _ => ⟨⟨by decide, by decide⟩, fun h => absurd rfl h, fun _ => ⟨rfl, ⟨by decide, by decide⟩, hI⟩⟩)
    exact ⟨h1, fun _ => hr2, fun _ => ⟨fun h => absurd c (by omega), fun _ => hr2⟩⟩
