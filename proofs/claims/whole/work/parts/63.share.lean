-- shares
theorem sm_split (f : Nat → Int) (m : Nat) : ∀ k, sm f (m + k) = sm f m + sm (fun i => f (m + i)) k := by
  intro k
  induction k with
  | zero => show sm f m = sm f m + 0; omega
  | succ k ih => show sm f (m + k) + f (m + k) = sm f m + (sm (fun i => f (m + i)) k + f (m + k)); rw [ih]; omega
def qS (L : Int → Int) (many : Int) (k : Nat) : Int := sm (fun s => if sm (bt (s : Int)) 10 = many then L (s : Int) else 0) k
theorem bits_add : ∀ n, n < 6 → ∀ s, s < 2 ^ n → sm (bt ((2 ^ n + s : Nat) : Int)) 10 = 1 + sm (bt (s : Int)) 10 := by decide +kernel
theorem bits_nn (s : Int) : 0 ≤ sm (bt s) 10 := (sm_bound (f := bt s) (n := 10) (B := 1) fun k _ => bt01 s k).1
theorem qS_step (L : Int → Int) (many : Int) {n : Nat} (hn : n < 6) : qS L many (2 ^ (n + 1)) = qS L many (2 ^ n) + qS (fun x => L ((2 ^ n : Nat) + x)) (many - 1) (2 ^ n) := by
  unfold qS
  rw [show 2 ^ (n + 1) = 2 ^ n + 2 ^ n by rw [Nat.pow_succ]; omega, sm_split]
  congr 1
  refine sm_congr fun s hs => ?_
  rw [bits_add n hn s hs]
  by_cases h : sm (bt (s : Int)) 10 = many - 1
  · rw [if_pos (by omega), if_pos h]; rfl
  · rw [if_neg (by omega), if_neg h]
theorem qS_neg (L : Int → Int) {many : Int} (h : many < 0) (k : Nat) : qS L many k = 0 := by
  unfold qS
  have := sm_zero (f := fun s => if sm (bt (s : Int)) 10 = many then L (s : Int) else 0) (n := 0) (m := k) (by omega) (fun s _ _ => by have := bits_nn (s : Int); rw [if_neg (by omega)])
  exact this
theorem qS0 : ∀ n (L : Int → Int), n ≤ 6 → qS L 0 (2 ^ n) = L 0 := by
  intro n
  induction n with
  | zero => intro L _; show 0 + (if sm (bt ((0 : Nat) : Int)) 10 = 0 then L ((0 : Nat) : Int) else 0) = L 0; rw [if_pos (by decide +kernel)]; exact Int.zero_add _
  | succ n ih => intro L h; rw [qS_step L 0 (by omega), ih L (by omega), qS_neg _ (by decide)]; omega
theorem qS1 : ∀ n (L : Int → Int), n ≤ 6 → qS L 1 (2 ^ n) = sm (fun p => L ((2 ^ p : Nat) : Int)) n := by
  intro n
  induction n with
  | zero => intro L _; show 0 + (if sm (bt ((0 : Nat) : Int)) 10 = 1 then L ((0 : Nat) : Int) else 0) = 0; rw [if_neg (by decide +kernel)]; rfl
  | succ n ih =>
    intro L h
    rw [qS_step L 1 (by omega), ih L (by omega), show (1 : Int) - 1 = 0 from rfl, qS0 n _ (by omega), Int.add_zero]
    rfl
theorem qS2 : ∀ n (L : Int → Int), n ≤ 6 → qS L 2 (2 ^ n) = sm (fun b => sm (fun a => L ((2 ^ b : Nat) + (2 ^ a : Nat))) b) n := by
  intro n
  induction n with
  | zero => intro L _; show 0 + (if sm (bt ((0 : Nat) : Int)) 10 = 2 then L ((0 : Nat) : Int) else 0) = 0; rw [if_neg (by decide +kernel)]; rfl
  | succ n ih =>
    intro L h
    rw [qS_step L 2 (by omega), ih L (by omega), show (2 : Int) - 1 = 1 from rfl, qS1 n _ (by omega)]
    rfl
theorem tri (f : Nat → Nat → Int) : ∀ n, sm (fun a => sm (fun j => f a (a + 1 + j)) (n - 1 - a)) n = sm (fun b => sm (fun a => f a b) b) n := by
  intro n
  induction n with
  | zero => rfl
  | succ n ih =>
    show sm (fun a => sm (fun j => f a (a + 1 + j)) (n + 1 - 1 - a)) n + sm (fun j => f n (n + 1 + j)) (n + 1 - 1 - n) = sm (fun b => sm (fun a => f a b) b) n + sm (fun a => f a n) n
    rw [← ih, show n + 1 - 1 - n = 0 by omega, ← sm_add]
    show _ + 0 = _
    rw [Int.add_zero]
    refine sm_congr fun a ha => ?_
    rw [show n + 1 - 1 - a = n - 1 - a + 1 by omega]
    show sm (fun j => f a (a + 1 + j)) (n - 1 - a) + f a (a + 1 + (n - 1 - a)) = _
    rw [show a + 1 + (n - 1 - a) = n by omega]
theorem ior_two : ∀ a, a < 6 → ∀ b, b < 6 → a ≠ b → ior ((1 : Int) * 2 ^ a) ((1 : Int) * 2 ^ b) = ((2 ^ b : Nat) : Int) + ((2 ^ a : Nat) : Int) := by decide +kernel
theorem bits2 : ∀ a, a < 6 → ∀ b, b < 6 → a ≠ b → sm (bt (((2 ^ b : Nat) : Int) + ((2 ^ a : Nat) : Int))) 10 = 2 := by decide +kernel
theorem p22 {a b : Nat} (ha : a < 6) (hb : b < 6) : 0 ≤ ((2 ^ b : Nat) : Int) + ((2 ^ a : Nat) : Int) ∧ ((2 ^ b : Nat) : Int) + ((2 ^ a : Nat) : Int) ≤ 64 := by
  have h1 := Nat.pow_le_pow_right (n := 2) (by decide) (show a ≤ 5 by omega)
  have h2 := Nat.pow_le_pow_right (n := 2) (by decide) (show b ≤ 5 by omega)
  have h3 := Int.natCast_nonneg (2 ^ a)
  have h4 := Int.natCast_nonneg (2 ^ b)
  omega
theorem one_two (p : Nat) : (1 : Int) * 2 ^ p = ((2 ^ p : Nat) : Int) := by rw [Int.one_mul, two_pow_cast]
theorem s_X12_likelyOf {d : Nat} {dd : List (Nat × Nat)} {sh : Nat → Nat → Nat} {g : Nat → Nat → Int} {K : Int → (Nat → Nat → Int) → Prop} {g0 g1 : Nat → Nat → Int} {n m : Nat} {many : Int} (hI : Inv dd sh g0) (hs : ClScr g0 g1) (hr : RefScr g1 g) (hn : g0 135 0 = n) (hm : g0 135 5 = m) (hmi : i32 many) (hK : ∀ g', RefScr g1 g' → K (qS (likA (g0 135) (g0 137) n m) many (2 ^ n)) g') : cL (d + 7) m_X12_likelyOf [(vR 134), (vI many)] dd sh g K := by
  have en := hI.s.n
  have e2 : (1 : Int) * 2 ^ (n : Int).toNat = ((2 ^ n : Nat) : Int) := one_two n
  have e64 : 2 ^ n ≤ 64 := Nat.pow_le_pow_right (n := 2) (by decide) (show n ≤ 6 by omega)
  have e00 := Int.natCast_nonneg (2 ^ n)
  refine mkL (ls := [some (vR 134), some (vI many), none, none, none]) rfl rfl rfl rfl rfl (r_X12_likelyOf_0 ?_)
  refine loop (P := fun k => ∀ g', RefScr g1 g' → rL (d + 6) m_X12_likelyOf 5 [some (vR 134), some (vI many), some (vL (qS (likA (g0 135) (g0 137) n m) many k)), none, some (vI (((k : Nat) : Int)))] [] dd sh (g') K) (n := 2 ^ n) ?_ ?_ 0 (Nat.zero_le _) g hr
  · intro g' hr'
    refine r_X12_likelyOf_5 ?_
    rw [(RE.of hs hr').1, hn, e2]
    exact ⟨by omega, by omega, ⟨by omega, by omega⟩, ⟨by omega, by omega⟩, fun _ => hK g' hr', fun h => absurd h (by omega)⟩
  · intro k hk ih g' hr'
    refine r_X12_likelyOf_5 ?_
    rw [(RE.of hs hr').1, hn, e2]
    refine ⟨by omega, by omega, ⟨by omega, by omega⟩, ⟨by omega, by omega⟩, fun h => absurd h (by omega), fun _ => ?_⟩
    have hbs := sm_bound (f := bt (k : Int)) (n := 10) (B := 1) fun j _ => bt01 _ j
    refine s_X12_bits (by omega) (by omega) ⟨⟨by omega, by omega⟩, hmi, fun h => ?_, fun h => ?_⟩
    · have h8 := ih g' hr'
      rw [show qS (likA (g0 135) (g0 137) n m) many (k + 1) = qS (likA (g0 135) (g0 137) n m) many k + (if sm (bt (k : Int)) 10 = many then likA (g0 135) (g0 137) n m (k : Int) else 0) from rfl, if_neg h] at h8
      exact h8
    · refine s_X12_likely hI hs hr' hn hm (by omega) fun g2 hr2 => ?_
      have h8 := ih g2 hr2
      rw [show qS (likA (g0 135) (g0 137) n m) many (k + 1) = qS (likA (g0 135) (g0 137) n m) many k + (if sm (bt (k : Int)) 10 = many then likA (g0 135) (g0 137) n m (k : Int) else 0) from rfl, if_pos h] at h8
      exact h8
theorem sim_share : S_share := by
  intro dd sh g hI a1 a2 h1 h2
  have hA := hI.s.ab
  have en := hA.n
  have hs0 := hI.nn.s0
  obtain ⟨n, hn⟩ := Int.eq_ofNat_of_zero_le en.1
  obtain ⟨m, hm⟩ := Int.eq_ofNat_of_zero_le hs0.2.1
  unfold SimL
  by_cases c : 0 ≤ a1 ∧ a1 < g 135 0
  · obtain ⟨p, rfl⟩ := Int.eq_ofNat_of_zero_le c.1
    have hb : ∀ p, p < 6 → 0 ≤ likA (g 135) (g 137) n m ((2 ^ p : Nat) : Int) ∧ likA (g 135) (g 137) n m ((2 ^ p : Nat) : Int) ≤ 980100000000 := fun p hp => hI.lik hn hm (by rw [← one_two, bits1 p hp]; decide)
    have hbs := sm_bound (f := fun p => likA (g 135) (g 137) n m ((2 ^ p : Nat) : Int)) (n := n) (B := 980100000000) fun k hk => hb k (by omega)
    have hbp := hb p (by omega)
    obtain ⟨x, hx⟩ := Int.eq_ofNat_of_zero_le hbp.1
    obtain ⟨y, hy⟩ := Int.eq_ofNat_of_zero_le hbs.1
    have hpw := p2 (p := p) (by omega)
    rw [one_two] at hpw
    refine mkL (ls := [some (vR 1), some (vI ((p : Int))), some (vI a2)]) rfl rfl rfl rfl rfl (r_X11_share_0 ?_)
    refine s_X7_hasSuspect hI.s h1 (fun _ _ => ⟨⟨by decide, by decide⟩, fun _ => ?_, fun h => absurd h (by decide)⟩) (fun h => absurd h (by omega))
    refine mkL (ls := [some (vR 121), some (vI ((p : Int))), some (vI a2), none, none, none]) rfl rfl rfl rfl rfl (r_X0_shareOf_0 ?_)
    refine loop (P := fun k => ∀ g', ClScr g g' → rL 198 m_X0_shareOf 5 [some (vR 121), some (vI ((p : Int))), some (vI a2), some (vL (sm (fun p => likA (g 135) (g 137) n m ((2 ^ p : Nat) : Int)) k)), none, some (vI ((k : Int)))] [] dd sh (g') (fun r1 g2 => cL 200 m_X12_share [vR 134, vI (p : Int), vI a2] dd sh g2 (fun r' g3 => r1 = r' ∧ i64 r1 ∧ Inv dd sh g3))) (n := n) ?_ ?_ 0 (by omega) g ClScr.rf
    · intro g' hs
      refine r_X0_shareOf_5 ?_
      have en' := hI.s.n
      rw [hs 3 (by omega), show ((p : Int)).toNat = p from rfl, one_two]
      refine ⟨⟨by omega, by omega⟩, ⟨by omega, by omega⟩, fun _ => ⟨by omega, by omega, ?_⟩, fun h => absurd h (by omega)⟩
      refine s_X0_weightIf hI hs hn hm (by omega) fun g1 hs1 => ?_
      rw [hx, hy]
      refine s_X11_lowestTerms (by omega) (by omega) h2 ?_
      refine mkL (ls := [some (vR 134), some (vI ((p : Int))), some (vI a2)]) rfl rfl rfl rfl rfl (r_X12_share_0 ?_)
      refine s_X12_isSuspect (by rw [hs1 135 (by omega)]; exact en) h1 (fun _ _ => ⟨⟨by decide, by decide⟩, fun h => absurd h (by decide), fun _ => ⟨by omega, by omega, ?_⟩⟩) (fun h => absurd h (by rw [hs1 135 (by omega)]; omega))
      rw [show ((p : Int)).toNat = p from rfl, one_two]
      refine s_X12_likely hI hs1 RefScr.rf hn hm (by omega) fun g2 hr2 => ?_
      refine s_X12_likelyOf hI hs1 hr2 hn hm ⟨by decide, by decide⟩ fun g3 hr3 => ?_
      rw [qS1 n _ (by omega), hx, hy]
      exact s_X12_part (by omega) (by omega) h2 ⟨rfl, prt_b (by omega) (by omega) h2, hI.scr hs1 hr3⟩
    · intro k hk ih g' hs
      refine r_X0_shareOf_5 ?_
      have en' := hI.s.n
      have hpk := p2 (p := k) (by omega)
      rw [one_two] at hpk
      rw [hs 3 (by omega), show ((k : Int)).toNat = k from rfl, one_two k]
      refine ⟨⟨by omega, by omega⟩, ⟨by omega, by omega⟩, fun h => absurd h (by omega), fun _ => ⟨by omega, by omega, ?_⟩⟩
      exact s_X0_weightIf hI hs hn hm (by omega) fun g1 hs1 => ih g1 hs1
  · refine mkL (ls := [some (vR 1), some (vI a1), some (vI a2)]) rfl rfl rfl rfl rfl (r_X11_share_0 ?_)
    refine s_X7_hasSuspect hI.s h1 (fun _ _ => absurd ⟨by assumption, by assumption⟩ c) (fun _ => ⟨⟨by decide, by decide⟩, fun h => absurd rfl h, fun _ => ?_⟩)
    refine mkL (ls := [some (vR 134), some (vI a1), some (vI a2)]) rfl rfl rfl rfl rfl (r_X12_share_0 ?_)
    exact s_X12_isSuspect en h1 (fun _ _ => absurd ⟨by assumption, by assumption⟩ c) (fun h => ⟨⟨by decide, by decide⟩, fun _ => ⟨rfl, ⟨by decide, by decide⟩, hI⟩, fun h => absurd rfl h⟩)
theorem sim_both : S_both := by
  intro dd sh g hI a1 a2 a3 h1 h2 h3
  have hA := hI.s.ab
  have en := hA.n
  have hs0 := hI.nn.s0
  obtain ⟨n, hn⟩ := Int.eq_ofNat_of_zero_le en.1
  obtain ⟨m, hm⟩ := Int.eq_ofNat_of_zero_le hs0.2.1
  unfold SimL
  by_cases c : (0 ≤ a1 ∧ a1 < g 135 0) ∧ (0 ≤ a2 ∧ a2 < g 135 0) ∧ a1 ≠ a2
  · obtain ⟨⟨c1, c1'⟩, ⟨c2, c2'⟩, c3⟩ := c
    obtain ⟨p, rfl⟩ := Int.eq_ofNat_of_zero_le c1
    obtain ⟨q, rfl⟩ := Int.eq_ofNat_of_zero_le c2
    have hb : ∀ a, a < 6 → ∀ b, b < 6 → a ≠ b → 0 ≤ likA (g 135) (g 137) n m (((2 ^ b : Nat) : Int) + ((2 ^ a : Nat) : Int)) ∧ likA (g 135) (g 137) n m (((2 ^ b : Nat) : Int) + ((2 ^ a : Nat) : Int)) ≤ 980100000000 := fun a ha b hb hab => hI.lik hn hm (by rw [bits2 a ha b hb hab]; decide)
    have hbi : ∀ b, b < n → 0 ≤ sm (fun a => likA (g 135) (g 137) n m (((2 ^ b : Nat) : Int) + ((2 ^ a : Nat) : Int))) b ∧ sm (fun a => likA (g 135) (g 137) n m (((2 ^ b : Nat) : Int) + ((2 ^ a : Nat) : Int))) b ≤ 6 * 980100000000 := fun b hbn => by
      have := sm_bound (f := fun a => likA (g 135) (g 137) n m (((2 ^ b : Nat) : Int) + ((2 ^ a : Nat) : Int))) (n := b) (B := 980100000000) fun a ha => hb a (by omega) b (by omega) (by omega)
      omega
    have hbs := sm_bound (f := fun b => sm (fun a => likA (g 135) (g 137) n m (((2 ^ b : Nat) : Int) + ((2 ^ a : Nat) : Int))) b) (n := n) (B := 6 * 980100000000) hbi
    have hbp := hb p (by omega) q (by omega) (by omega)
    obtain ⟨x, hx⟩ := Int.eq_ofNat_of_zero_le hbp.1
    obtain ⟨y, hy⟩ := Int.eq_ofNat_of_zero_le hbs.1
    have htri := tri (fun a b => likA (g 135) (g 137) n m (((2 ^ b : Nat) : Int) + ((2 ^ a : Nat) : Int))) n
    have hpq := p22 (a := p) (b := q) (by omega) (by omega)
    refine mkL (ls := [some (vR 1), some (vI ((p : Int))), some (vI ((q : Int))), some (vI a3), none]) rfl rfl rfl rfl rfl (r_X11_both_0 ?_)
    refine ⟨h1, h2, fun h => absurd h c3, fun _ => ?_⟩
    refine s_X7_hasSuspect hI.s h1 (fun _ _ => ⟨⟨by decide, by decide⟩, fun h => absurd h (by decide), fun _ => ?_⟩) (fun h => absurd h (by omega))
    refine s_X7_hasSuspect hI.s h2 (fun _ _ => ⟨⟨by decide, by decide⟩, fun _ => ?_, fun h => absurd h (by decide)⟩) (fun h => absurd h (by omega))
    refine mkL (ls := [some (vR 121), some (vI ((p : Int))), some (vI ((q : Int))), some (vI a3), none, none, none, none]) rfl rfl rfl rfl rfl (r_X0_shareOfTwo_0 ?_)
    refine loop (P := fun k => ∀ g', ClScr g g' → rL 198 m_X0_shareOfTwo 6 [some (vR 121), some (vI ((p : Int))), some (vI ((q : Int))), some (vI a3), some (vL (sm (fun a => sm (fun j => likA (g 135) (g 137) n m (((2 ^ (a + 1 + j) : Nat) : Int) + ((2 ^ a : Nat) : Int))) (n - 1 - a)) k)), none, some (vI ((k : Int))), none] [] dd sh (g') (fun r1 g2 => cL 200 m_X12_both [vR 134, vI (p : Int), vI (q : Int), vI a3] dd sh g2 (fun r' g3 => r1 = r' ∧ i64 r1 ∧ Inv dd sh g3))) (n := n) ?_ ?_ 0 (by omega) g ClScr.rf
    · intro g' hs
      refine r_X0_shareOfTwo_6 ?_
      have en' := hI.s.n
      rw [hs 3 (by omega), show ((p : Int)).toNat = p from rfl, show ((q : Int)).toNat = q from rfl, ior_two p (by omega) q (by omega) (by omega), htri]
      refine ⟨⟨by omega, by omega⟩, ⟨by omega, by omega⟩, fun _ => ⟨by omega, by omega, by omega, by omega, ?_⟩, fun h => absurd h (by omega)⟩
      refine s_X0_weightIf hI hs hn hm (by omega) fun g1 hs1 => ?_
      rw [hx, hy]
      refine s_X11_lowestTerms (by omega) (by omega) h3 ?_
      refine mkL (ls := [some (vR 134), some (vI ((p : Int))), some (vI ((q : Int))), some (vI a3)]) rfl rfl rfl rfl rfl (r_X12_both_0 ?_)
      refine s_X12_isSuspect (by rw [hs1 135 (by omega)]; exact en) h1 (fun _ _ => ⟨⟨by decide, by decide⟩, fun h => absurd h (by decide), fun _ => ?_⟩) (fun h => absurd h (by rw [hs1 135 (by omega)]; omega))
      refine s_X12_isSuspect (by rw [hs1 135 (by omega)]; exact en) h2 (fun _ _ => ⟨⟨by decide, by decide⟩, fun h => absurd h (by decide), fun _ => ⟨h1, h2, fun _ => ⟨by omega, by omega, by omega, by omega, ?_⟩, fun h => absurd h c3⟩⟩) (fun h => absurd h (by rw [hs1 135 (by omega)]; omega))
      rw [show ((p : Int)).toNat = p from rfl, show ((q : Int)).toNat = q from rfl, ior_two p (by omega) q (by omega) (by omega)]
      refine s_X12_likely hI hs1 RefScr.rf hn hm (by omega) fun g2 hr2 => ?_
      refine s_X12_likelyOf hI hs1 hr2 hn hm ⟨by decide, by decide⟩ fun g3 hr3 => ?_
      rw [qS2 n _ (by omega), hx, hy]
      exact s_X12_part (by omega) (by omega) h3 ⟨rfl, prt_b (by omega) (by omega) h3, hI.scr hs1 hr3⟩
    · intro a ha ih g' hs
      refine r_X0_shareOfTwo_6 ?_
      have en' := hI.s.n
      rw [hs 3 (by omega)]
      refine ⟨⟨by omega, by omega⟩, ⟨by omega, by omega⟩, fun h => absurd h (by omega), fun _ => ?_⟩
      rw [show (a : Int) + 1 = ((a + 1 + 0 : Nat) : Int) by omega]
      have hgo : ∀ U, U = sm (fun a => sm (fun j => likA (g 135) (g 137) n m (((2 ^ (a + 1 + j) : Nat) : Int) + ((2 ^ a : Nat) : Int))) (n - 1 - a)) a + sm (fun j => likA (g 135) (g 137) n m (((2 ^ (a + 1 + j) : Nat) : Int) + ((2 ^ a : Nat) : Int))) 0 → rL 198 m_X0_shareOfTwo 24 [some (vR 121), some (vI ((p : Int))), some (vI ((q : Int))), some (vI a3), some (vL U), none, some (vI ((a : Int))), some (vI (((a + 1 + 0 : Nat) : Int)))] [] dd sh (g') (fun r1 g2 => cL 200 m_X12_both [vR 134, vI (p : Int), vI (q : Int), vI a3] dd sh g2 (fun r' g3 => r1 = r' ∧ i64 r1 ∧ Inv dd sh g3)) := by
        intro U hU
        rw [hU]
        refine loop (P := fun j => ∀ g', ClScr g g' → rL 198 m_X0_shareOfTwo 24 [some (vR 121), some (vI ((p : Int))), some (vI ((q : Int))), some (vI a3), some (vL (sm (fun a => sm (fun j => likA (g 135) (g 137) n m (((2 ^ (a + 1 + j) : Nat) : Int) + ((2 ^ a : Nat) : Int))) (n - 1 - a)) a + sm (fun j => likA (g 135) (g 137) n m (((2 ^ (a + 1 + j) : Nat) : Int) + ((2 ^ a : Nat) : Int))) j)), none, some (vI ((a : Int))), some (vI (((a + 1 + j : Nat) : Int)))] [] dd sh (g') (fun r1 g2 => cL 200 m_X12_both [vR 134, vI (p : Int), vI (q : Int), vI a3] dd sh g2 (fun r' g3 => r1 = r' ∧ i64 r1 ∧ Inv dd sh g3))) (n := n - 1 - a) ?_ ?_ 0 (by omega) g' hs
        · intro g' hs
          refine r_X0_shareOfTwo_24 ?_
          rw [hs 3 (by omega)]
          exact ⟨⟨by omega, by omega⟩, ⟨by omega, by omega⟩, fun _ => ih g' hs, fun h => absurd h (by omega)⟩
        · intro j hj ih2 g' hs
          refine r_X0_shareOfTwo_24 ?_
          have hpk := p22 (a := a) (b := a + 1 + j) (by omega) (by omega)
          rw [hs 3 (by omega), show ((a : Int)).toNat = a from rfl, show (((a + 1 + j : Nat) : Int)).toNat = a + 1 + j from rfl, ior_two a (by omega) (a + 1 + j) (by omega) (by omega)]
          refine ⟨⟨by omega, by omega⟩, ⟨by omega, by omega⟩, fun h => absurd h (by omega), fun _ => ⟨by omega, by omega, by omega, by omega, ?_⟩⟩
          refine s_X0_weightIf hI hs hn hm (by omega) fun g1 hs1 => ?_
          have h8 := ih2 g1 hs1
          rw [show sm (fun j => likA (g 135) (g 137) n m (((2 ^ (a + 1 + j) : Nat) : Int) + ((2 ^ a : Nat) : Int))) (j + 1) = sm (fun j => likA (g 135) (g 137) n m (((2 ^ (a + 1 + j) : Nat) : Int) + ((2 ^ a : Nat) : Int))) j + likA (g 135) (g 137) n m (((2 ^ (a + 1 + j) : Nat) : Int) + ((2 ^ a : Nat) : Int)) from rfl, ← Int.add_assoc] at h8
          exact h8
      exact hgo _ (Int.add_zero _).symm
  · have hK : cL 200 m_X12_both [vR 134, vI a1, vI a2, vI a3] dd sh g (fun r' g3 => (-1 : Int) = r' ∧ i64 (-1) ∧ Inv dd sh g3) := by
      refine mkL (ls := [some (vR 134), some (vI a1), some (vI a2), some (vI a3)]) rfl rfl rfl rfl rfl (r_X12_both_0 ?_)
      refine s_X12_isSuspect en h1 (fun _ _ => ⟨⟨by decide, by decide⟩, fun h => absurd h (by decide), fun _ => ?_⟩) (fun h => ⟨⟨by decide, by decide⟩, fun _ => ⟨rfl, ⟨by decide, by decide⟩, hI⟩, fun h => absurd rfl h⟩)
      refine s_X12_isSuspect en h2 (fun _ _ => ⟨⟨by decide, by decide⟩, fun h => absurd h (by decide), fun _ => ⟨h1, h2, fun h => absurd ⟨⟨by assumption, by assumption⟩, ⟨by assumption, by assumption⟩, h⟩ c, fun _ => ⟨rfl, ⟨by decide, by decide⟩, hI⟩⟩⟩) (fun h => ⟨⟨by decide, by decide⟩, fun _ => ⟨rfl, ⟨by decide, by decide⟩, hI⟩, fun h => absurd rfl h⟩)
    refine mkL (ls := [some (vR 1), some (vI a1), some (vI a2), some (vI a3), none]) rfl rfl rfl rfl rfl (r_X11_both_0 ?_)
    refine ⟨h1, h2, fun _ => hK, fun h9 => ?_⟩
    refine s_X7_hasSuspect hI.s h1 (fun _ _ => ⟨⟨by decide, by decide⟩, fun h => absurd h (by decide), fun _ => ?_⟩) (fun _ => ⟨⟨by decide, by decide⟩, fun _ => hK, fun h => absurd rfl h⟩)
    exact s_X7_hasSuspect hI.s h2 (fun _ _ => absurd ⟨⟨by assumption, by assumption⟩, ⟨by assumption, by assumption⟩, h9⟩ c) (fun _ => ⟨⟨by decide, by decide⟩, fun h => absurd rfl h, fun _ => hK⟩)
-- unseen
def tgA (a : Nat → Int) (c : Nat) : Nat := if a (60 + 4 * c) = 0 then 1 + (a (61 + 4 * c)).toNat else 0
noncomputable def unF (a T : Nat → Int) (p c : Nat) : Int := pw (10 - oddsA a T (a 3) p c 1) (tgA a c)
def teN (a : Nat → Int) (c : Nat) : Int := pw 10 (tgA a c)
theorem tgA_b {a : Nat → Int} (h : AB a) {c : Nat} (hc : c < 7) (hca : (c : Int) < a 1) : tgA a c ≤ 2 := by
  have := h.cc c hc hca
  unfold tgA
  split <;> omega
theorem pw_b {v : Int} (h : 0 ≤ v ∧ v ≤ 10) {n : Nat} (hn : n ≤ 2) : 0 ≤ pw v n ∧ pw v n ≤ 100 := by
  have hc : n = 0 ∨ n = 1 ∨ n = 2 := by omega
  rcases hc with rfl | rfl | rfl
  · show (0 : Int) ≤ 1 ∧ (1 : Int) ≤ 100; exact ⟨by decide, by decide⟩
  · show 0 ≤ 1 * v ∧ 1 * v ≤ 100; omega
  · show 0 ≤ 1 * v * v ∧ 1 * v * v ≤ 100
    rw [Int.one_mul]
    exact mulb h h
theorem sim_unseen : S_unseen := by
  intro dd sh g hI a1 a2 h1 h2
  have hA := hI.s.ab
  have en := hA.n
  have em := hA.m
  have hru := hI.h.ru
  have htx := hI.h.tx
  obtain ⟨m, hm⟩ := Int.eq_ofNat_of_zero_le em.1
  unfold SimL
  by_cases c : 0 ≤ a1 ∧ a1 < g 135 0
  · obtain ⟨p, rfl⟩ := Int.eq_ofNat_of_zero_le c.1
    have hob := fun k => oddsA_b (g 135) (g 137) (g 135 3) p k 1
    have h100 := pow_mono (x := 100) (by decide) (show m ≤ 7 by omega)
    have hb1 := pd_b (f := unF (g 135) (g 137) p) (v := 1) (B := 1) (C := 100) (n := m) ⟨by decide, by decide⟩ (by decide) fun k hk => pw_b (by have := hob k; omega) (tgA_b hA (by omega) (by omega))
    have hb2 := pd_b (f := teN (g 135)) (v := 1) (B := 1) (C := 100) (n := m) ⟨by decide, by decide⟩ (by decide) fun k hk => pw_b ⟨by decide, by decide⟩ (tgA_b hA (by omega) (by omega))
    rw [Int.one_mul] at hb1 hb2
    have e100 : (100 : Int) ^ 7 = 100000000000000 := by decide
    obtain ⟨x, hx⟩ := Int.eq_ofNat_of_zero_le hb1.1
    obtain ⟨y, hy⟩ := Int.eq_ofNat_of_zero_le hb2.1
    refine mkL (ls := [some (vR 1), some (vI ((p : Int))), some (vI a2)]) rfl rfl rfl rfl rfl (r_X11_unseen_0 ?_)
    refine s_X7_hasSuspect hI.s h1 (fun _ _ => ⟨⟨by decide, by decide⟩, fun _ => ?_, fun h => absurd h (by decide)⟩) (fun h => absurd h (by omega))
    refine mkL (ls := [some (vR 121), some (vI ((p : Int))), some (vI a2), none, none, none, none, none, none, none]) rfl rfl rfl rfl rfl (r_X0_oddsUnseen_0 ?_)
    refine loop (P := fun k => ∀ g', ClScr g g' → rL 198 m_X0_oddsUnseen 8 [some (vR 121), some (vI ((p : Int))), some (vI a2), some (vL (pd (unF (g 135) (g 137) p) 1 k)), none, some (vL (pd (teN (g 135)) 1 k)), none, some (vI ((k : Int))), none, none] [] dd sh (g') (fun r1 g2 => cL 200 m_X12_unseen [vR 134, vI (p : Int), vI a2] dd sh g2 (fun r' g3 => r1 = r' ∧ i64 r1 ∧ Inv dd sh g3))) (n := m) ?_ ?_ 0 (by omega) g ClScr.rf
    · intro g1 hs
      refine r_X0_oddsUnseen_8 ?_
      have em' := hI.s.m
      rw [hs 3 (by omega)]
      refine ⟨⟨by omega, by omega⟩, ⟨by omega, by omega⟩, fun _ => ?_, fun h => absurd h (by omega)⟩
      rw [hx, hy]
      refine s_X11_lowestTerms (by omega) (by omega) h2 ?_
      refine mkL (ls := [some (vR 134), some (vI ((p : Int))), some (vI a2), none, none, none, none, none, none]) rfl rfl rfl rfl rfl (r_X12_unseen_0 ?_)
      refine s_X12_isSuspect (by rw [hs 135 (by omega)]; exact en) h1 (fun _ _ => ⟨⟨by decide, by decide⟩, fun _ => ?_, fun h => absurd h (by decide)⟩) (fun h => absurd h (by rw [hs 135 (by omega)]; omega))
      refine loop (P := fun k => ∀ g', RefScr g1 g' → rL 199 m_X12_unseen 20 [some (vR 134), some (vI ((p : Int))), some (vI a2), some (vL (pd (unF (g 135) (g 137) p) 1 k)), none, some (vL (pd (teN (g 135)) 1 k)), none, some (vI ((k : Int))), none] [] dd sh (g') (fun r' g3 => prt x y a2 = r' ∧ i64 (prt x y a2) ∧ Inv dd sh g3)) (n := m) ?_ ?_ 0 (by omega) g1 RefScr.rf
      · intro g' hr
        refine r_X12_unseen_20 ?_
        rw [(RE.of hs hr).1]
        refine ⟨⟨by omega, by omega⟩, ⟨by omega, by omega⟩, fun _ => ?_, fun h => absurd h (by omega)⟩
        rw [hx, hy]
        exact s_X12_part (by omega) (by omega) h2 ⟨rfl, prt_b (by omega) (by omega) h2, hI.scr hs hr⟩
      · intro k hk ih g' hr
        have hcc := hA.cc k (by omega) (by omega)
        have hobk := hob k
        refine r_X12_unseen_20 ?_
        rw [(RE.of hs hr).1]
        refine ⟨⟨by omega, by omega⟩, ⟨by omega, by omega⟩, fun h => absurd h (by omega), fun _ => ?_⟩
        have ih' : ∀ g' U W, RefScr g1 g' → U = pd (unF (g 135) (g 137) p) 1 k * unF (g 135) (g 137) p k → W = pd (teN (g 135)) 1 k * teN (g 135) k → rL 199 m_X12_unseen 20 [some (vR 134), some (vI ((p : Int))), some (vI a2), some (vL U), none, some (vL W), none, some (vI ((k : Int) + 1)), none] [] dd sh (g') (fun r' g3 => prt x y a2 = r' ∧ i64 (prt x y a2) ∧ Inv dd sh g3) := fun g' U W hr hU hW => by
          rw [hU, hW]
          exact ih g' hr
        by_cases hcut : g 135 (60 + 4 * k) = 0
        · refine r_X12_unseen_34 (s_of3 (by omega) ?_)
          rw [(RE.of hs hr).1]
          refine ⟨⟨by decide, by decide⟩, ⟨by omega, by omega⟩, fun h => absurd h (by omega), fun _ => s_of2 (by omega) ?_⟩
          rw [(RE.of hs hr).1]
          refine ⟨⟨by omega, by omega⟩, fun h => absurd hcut h, fun _ => ?_⟩
          refine o_of hI (RE.of hs hr) (by omega) ⟨by omega, by omega⟩ (by omega) (by omega) (by omega) (by omega) ⟨by decide, by decide⟩ fun g2 f2 => ⟨⟨by omega, by omega⟩, ?_⟩
          have hr2 := hr.tr f2.scr
          refine r_X12_unseen_34 (s_of3 (by omega) ?_)
          rw [(RE.of hs hr2).1]
          refine ⟨⟨by decide, by decide⟩, ⟨by omega, by omega⟩, fun h => ?_, fun h => s_of2 (by omega) ?_⟩
          · refine ih' g2 _ _ hr2 ?_ ?_
            · unfold unF tgA; rw [if_pos hcut, show (g 135 (61 + 4 * k)).toNat = 0 by omega]; show _ = _ * (1 * _); rw [Int.one_mul]
            · unfold teN tgA; rw [if_pos hcut, show (g 135 (61 + 4 * k)).toNat = 0 by omega]; rfl
          · rw [(RE.of hs hr2).1]
            refine ⟨⟨by omega, by omega⟩, fun h => absurd hcut h, fun _ => ?_⟩
            refine o_of hI (RE.of hs hr2) (by omega) ⟨by omega, by omega⟩ (by omega) (by omega) (by omega) (by omega) ⟨by decide, by decide⟩ fun g3 f3 => ⟨⟨by omega, by omega⟩, ?_⟩
            have hr3 := hr2.tr f3.scr
            refine r_X12_unseen_34 (s_of3 (by omega) ?_)
            rw [(RE.of hs hr3).1]
            refine ⟨⟨by decide, by decide⟩, ⟨by omega, by omega⟩, fun h => ?_, fun h => absurd h (by omega)⟩
            refine ih' g3 _ _ hr3 ?_ ?_
            · unfold unF tgA; rw [if_pos hcut, show (g 135 (61 + 4 * k)).toNat = 1 by omega]; show _ = _ * (1 * _ * _); rw [Int.one_mul, Int.mul_assoc]
            · unfold teN tgA; rw [if_pos hcut, show (g 135 (61 + 4 * k)).toNat = 1 by omega]; show _ = _ * (1 * 10 * 10); rw [Int.mul_assoc]; rfl
        · refine r_X12_unseen_34 (s_of3 (by omega) ?_)
          rw [(RE.of hs hr).1]
          refine ⟨⟨by decide, by decide⟩, ⟨by omega, by omega⟩, fun h => absurd h (by omega), fun _ => s_of2 (by omega) ?_⟩
          rw [(RE.of hs hr).1]
          refine ⟨⟨by omega, by omega⟩, fun _ => ?_, fun h => absurd h hcut⟩
          refine ih' g' _ _ hr ?_ ?_
          · unfold unF tgA; rw [if_neg hcut]; show _ = _ * 1; rw [Int.mul_one]
          · unfold teN tgA; rw [if_neg hcut]; show _ = _ * 1; rw [Int.mul_one]
    · intro k hk ih g' hs
      have em' := hI.s.m
      have hobk := hob k
      have hcc := hA.cc k (by omega) (by omega)
      refine r_X0_oddsUnseen_8 ?_
      rw [hs 3 (by omega)]
      refine ⟨⟨by omega, by omega⟩, ⟨by omega, by omega⟩, fun h => absurd h (by omega), fun _ => ?_⟩
      refine s_X7_timesGiven (hs.s hI.s) (c := k) (by omega) (by omega) fun r r0 r2 rc rn => ?_
      have hr : r.toNat = tgA (g 135) k := by
        unfold tgA
        split
        · have := rn (by assumption); omega
        · have := rc (by omega); omega
      refine o_now hI hs (by omega) (by omega) (by omega) (by omega) ⟨by decide, by decide⟩ fun g2 f2 hs2 => ⟨⟨by omega, by omega⟩, ?_⟩
      refine s_X11_power r0 (by omega) (s_X11_power r0 (by omega) ?_)
      rw [hr]
      exact ih g2 hs2
  · refine mkL (ls := [some (vR 1), some (vI a1), some (vI a2)]) rfl rfl rfl rfl rfl (r_X11_unseen_0 ?_)
    refine s_X7_hasSuspect hI.s h1 (fun _ _ => absurd ⟨by assumption, by assumption⟩ c) (fun _ => ⟨⟨by decide, by decide⟩, fun h => absurd rfl h, fun _ => ?_⟩)
    refine mkL (ls := [some (vR 134), some (vI a1), some (vI a2), none, none, none, none, none, none]) rfl rfl rfl rfl rfl (r_X12_unseen_0 ?_)
    exact s_X12_isSuspect en h1 (fun _ _ => absurd ⟨by assumption, by assumption⟩ c) (fun h => ⟨⟨by decide, by decide⟩, fun h => absurd rfl h, fun _ => ⟨rfl, ⟨by decide, by decide⟩, hI⟩⟩)
