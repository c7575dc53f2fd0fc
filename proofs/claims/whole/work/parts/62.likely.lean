-- how likely a set of guilty is
def pd (f : Nat → Int) (v : Int) : Nat → Int
  | 0 => v
  | k + 1 => pd f v k * f k
theorem pd_b {f : Nat → Int} {v B C : Int} {n : Nat} (hv : 0 ≤ v ∧ v ≤ B) (hC : 1 ≤ C) (h : ∀ k, k < n → 0 ≤ f k ∧ f k ≤ C) : 0 ≤ pd f v n ∧ pd f v n ≤ B * C ^ n := by
  induction n with
  | zero => rw [Int.pow_zero, Int.mul_one]; exact hv
  | succ n ih =>
    have h1 := mulb (ih fun k hk => h k (by omega)) (h n (by omega))
    rw [Int.pow_succ, ← Int.mul_assoc]
    exact h1
def lwF (a : Nat → Int) (s : Int) (p : Nat) : Int := if bt s p = 0 then 1 else a (22 + 7 * p)
noncomputable def loF2 (a T : Nat → Int) (s : Int) (k : Nat) : Int :=
  if a (88 + 3 * k) = 1 then oddsA a T (a 3) (a (86 + 3 * k)).toNat (a (87 + 3 * k)).toNat (bt s (a (86 + 3 * k)).toNat) else 10 - oddsA a T (a 3) (a (86 + 3 * k)).toNat (a (87 + 3 * k)).toNat (bt s (a (86 + 3 * k)).toNat)
noncomputable def likA (a T : Nat → Int) (n m : Nat) (s : Int) : Int := pd (loF2 a T s) (pd (lwF a s) 1 n) m
theorem loF2_b (a T : Nat → Int) (s : Int) (k : Nat) : 0 ≤ loF2 a T s k ∧ loF2 a T s k ≤ 10 := by
  unfold loF2
  split
  · exact oddsA_b _ _ _ _ _ _
  · have := oddsA_b a T (a 3) (a (86 + 3 * k)).toNat (a (87 + 3 * k)).toNat (bt s (a (86 + 3 * k)).toNat)
    omega
theorem pow_mono {x : Int} (hx : 1 ≤ x) {m n : Nat} (h : m ≤ n) : x ^ m ≤ x ^ n := by
  induction h with
  | refl => exact Int.le_refl _
  | step _ ih =>
    rename_i k _
    rw [Int.pow_succ]
    have h0 : 0 ≤ x ^ k := Int.pow_nonneg (by omega)
    have := Int.mul_le_mul_of_nonneg_left hx h0
    omega
theorem lw_b {a : Nat → Int} {s : Int} : ∀ {n : Nat} {b : Nat}, (∀ p, p < n → 0 ≤ a (22 + 7 * p) ∧ a (22 + 7 * p) ≤ 99) → sm (bt s) n ≤ b → 0 ≤ pd (lwF a s) 1 n ∧ pd (lwF a s) 1 n ≤ 99 ^ b := by
  intro n
  induction n with
  | zero =>
    intro b _ _
    have := pow_mono (x := 99) (by decide) (Nat.zero_le b)
    rw [Int.pow_zero] at this
    exact ⟨by show (0 : Int) ≤ 1; decide, this⟩
  | succ n ih =>
    intro b h hs
    have hb := bt01 s n
    have hs' : sm (bt s) n + bt s n ≤ b := hs
    show 0 ≤ pd (lwF a s) 1 n * lwF a s n ∧ pd (lwF a s) 1 n * lwF a s n ≤ 99 ^ b
    by_cases h0 : bt s n = 0
    · rw [show lwF a s n = 1 from if_pos h0, Int.mul_one]
      exact ih (fun p hp => h p (by omega)) (by omega)
    · rw [show lwF a s n = a (22 + 7 * n) from if_neg h0]
      have hsm := sm_bound (f := bt s) (n := n) (B := 1) fun k _ => bt01 s k
      obtain ⟨b', rfl⟩ : ∃ b', b = b' + 1 := ⟨b - 1, by omega⟩
      have := mulb (ih (b := b') (fun p hp => h p (by omega)) (by omega)) (h n (by omega))
      rw [Int.pow_succ]
      exact this
theorem likA_b {a T : Nat → Int} {n m : Nat} {s : Int} (hm : m ≤ 8) (h : ∀ p, p < n → 0 ≤ a (22 + 7 * p) ∧ a (22 + 7 * p) ≤ 99) (hs : sm (bt s) n ≤ 2) : 0 ≤ likA a T n m s ∧ likA a T n m s ≤ 980100000000 := by
  have h1 := lw_b (b := 2) h hs
  have h2 := pd_b (f := loF2 a T s) (n := m) (B := 99 ^ 2) (C := 10) (by exact h1) (by decide) (fun k _ => loF2_b a T s k)
  have h3 := pow_mono (x := 10) (by decide) hm
  have h4 : (99 : Int) ^ 2 * 10 ^ m ≤ 99 ^ 2 * 10 ^ 8 := Int.mul_le_mul_of_nonneg_left h3 (by decide)
  exact ⟨h2.1, Int.le_trans h2.2 (Int.le_trans h4 (by decide))⟩
theorem s_X0_weightIf {d : Nat} {dd : List (Nat × Nat)} {sh : Nat → Nat → Nat} {g : Nat → Nat → Int} {K : Int → (Nat → Nat → Int) → Prop} {g0 : Nat → Nat → Int} {n m : Nat} {s : Int} (hI : Inv dd sh g0) (hs : ClScr g0 g) (hn : g0 135 0 = n) (hm : g0 135 5 = m) (h0 : 0 ≤ s ∧ s ≤ 2147483647) (hK : ∀ g', ClScr g0 g' → K (likA (g0 135) (g0 137) n m s) g') : cL (d + 5) m_X0_weightIf [(vR 121), (vI s)] dd sh g K := by
  have en := hI.s.n
  have em := hI.s.m
  have hs0 := hI.nn.s0
  refine mkL (ls := [some (vR 121), some (vI s), none, none, none, none, none, none]) rfl rfl rfl rfl rfl (r_X0_weightIf_0 ?_)
  refine loop (P := fun k => rL (d + 4) m_X0_weightIf 5 [some (vR 121), some (vI s), some (vL (pd (lwF (g0 135) s) 1 k)), none, some (vI ((k : Int))), none, none, none] [] dd sh g K) (n := n) ?_ ?_ 0 (by omega)
  · refine r_X0_weightIf_5 ?_
    rw [hs 3 (by omega)]
    refine ⟨⟨by omega, by omega⟩, ⟨by omega, by omega⟩, fun _ => ?_, fun h => absurd h (by omega)⟩
    refine loop (P := fun k => ∀ g', ClScr g0 g' → rL (d + 4) m_X0_weightIf 49 [some (vR 121), some (vI s), some (vL (pd (loF2 (g0 135) (g0 137) s) (pd (lwF (g0 135) s) 1 n) k)), none, some (vI ((k : Int))), none, none, none] [] dd sh (g') K) (n := m) ?_ ?_ 0 (by omega) g hs
    · intro g' hs'
      refine r_X0_weightIf_49 ?_
      rw [hs' 14 (by omega)]
      exact ⟨⟨by omega, by omega⟩, ⟨by omega, by omega⟩, fun _ => hK g' hs', fun h => absurd h (by omega)⟩
    · intro k hk ih g' hs'
      have l0 := hI.nn.l0 k (by omega)
      obtain ⟨p, hp⟩ := Int.eq_ofNat_of_zero_le l0.2.1.1
      obtain ⟨c, hc⟩ := Int.eq_ofNat_of_zero_le l0.2.2.1.1
      have hv : ∀ g', ClScr g0 g' → g' 16 k = (g0 135 (86 + 3 * k) * 16 + g0 135 (87 + 3 * k)) * 16 + g0 135 (88 + 3 * k) := fun g' h => by rw [h 16 (by omega)]; exact l0.1
      have hst : pd (loF2 (g0 135) (g0 137) s) (pd (lwF (g0 135) s) 1 n) (k + 1) = pd (loF2 (g0 135) (g0 137) s) (pd (lwF (g0 135) s) 1 n) k * (if g0 135 (88 + 3 * k) = 1 then oddsA (g0 135) (g0 137) (g0 135 3) p c (bt s p) else 10 - oddsA (g0 135) (g0 137) (g0 135 3) p c (bt s p)) := by
        show _ * loF2 (g0 135) (g0 137) s k = _
        unfold loF2
        rw [hp, hc]; rfl
      refine r_X0_weightIf_49 ?_
      rw [hs' 14 (by omega)]
      refine ⟨⟨by omega, by omega⟩, ⟨by omega, by omega⟩, fun h => absurd h (by omega), fun _ => ?_⟩
      refine s_one0 (by omega) (hv g' hs') (by omega) (by omega) (by omega) (s_other0 (by omega) (hv g' hs') (by omega) (by omega) (by omega) ?_)
      rw [hp, hc]
      refine s_X11_hasBit h0.1 h0.2 (by omega) (by omega) fun r er r0 r1 => ?_
      rw [show ((p : Int)).toNat = p from rfl] at er
      have hob := oddsA_b (g0 135) (g0 137) (g0 135 3) p c r
      refine o_now hI hs' (by omega) (by omega) (by omega) (by omega) ⟨by omega, by omega⟩ fun g1 f1 hs1 => ?_
      have h8 := ih g1 hs1
      rw [hst, ← er] at h8
      refine s_what0 (by omega) (hv g1 hs1) (by omega) (by omega) (by omega) ⟨⟨by omega, by omega⟩, fun h => ⟨⟨by omega, by omega⟩, ?_⟩, fun h => ⟨⟨by omega, by omega⟩, ?_⟩⟩
      · rw [if_neg h] at h8; exact h8
      · rw [if_pos h] at h8; exact h8
  · intro k hk ih
    have hw := hI.w (p := k) (by omega) (by omega)
    refine r_X0_weightIf_5 ?_
    rw [hs 3 (by omega)]
    refine ⟨⟨by omega, by omega⟩, ⟨by omega, by omega⟩, fun h => absurd h (by omega), fun _ => ?_⟩
    refine s_X11_hasBit h0.1 h0.2 (by omega) (by omega) fun r er r0 r1 => ⟨⟨by omega, by omega⟩, fun h => ?_, fun h => ?_⟩
    · have h8 := ih
      rw [show pd (lwF (g0 135) s) 1 (k + 1) = pd (lwF (g0 135) s) 1 k * lwF (g0 135) s k from rfl, show lwF (g0 135) s k = 1 from if_pos (by rw [← h, er]; rfl), Int.mul_one] at h8
      exact h8
    · have h8 := ih
      rw [show pd (lwF (g0 135) s) 1 (k + 1) = pd (lwF (g0 135) s) 1 k * lwF (g0 135) s k from rfl, show lwF (g0 135) s k = g0 135 (22 + 7 * k) from if_neg (fun e => h (by rw [er]; exact e))] at h8
      rw [hs 12 (by omega), show ((k : Int)).toNat = k from rfl, hw.1]
      exact ⟨by omega, by omega, ⟨by omega, by omega⟩, h8⟩
theorem s_X12_likely {d : Nat} {dd : List (Nat × Nat)} {sh : Nat → Nat → Nat} {g : Nat → Nat → Int} {K : Int → (Nat → Nat → Int) → Prop} {g0 g1 : Nat → Nat → Int} {n m : Nat} {s : Int} (hI : Inv dd sh g0) (hs : ClScr g0 g1) (hr : RefScr g1 g) (hn : g0 135 0 = n) (hm : g0 135 5 = m) (h0 : 0 ≤ s ∧ s ≤ 2147483647) (hK : ∀ g', RefScr g1 g' → K (likA (g0 135) (g0 137) n m s) g') : cL (d + 6) m_X12_likely [(vR 134), (vI s)] dd sh g K := by
  have en := hI.s.n
  have em := hI.s.m
  have hru := hI.h.ru
  have htx := hI.h.tx
  have hs0 := hI.nn.s0
  have e5 := (RE.of hs hr).1
  refine mkL (ls := [some (vR 134), some (vI s), none, none, none, none, none]) rfl rfl rfl rfl rfl (r_X12_likely_0 ?_)
  refine loop (P := fun k => rL (d + 5) m_X12_likely 5 [some (vR 134), some (vI s), some (vL (pd (lwF (g0 135) s) 1 k)), none, some (vI ((k : Int))), none, none] [] dd sh g K) (n := n) ?_ ?_ 0 (by omega)
  · refine r_X12_likely_5 ?_
    rw [e5]
    refine ⟨⟨by omega, by omega⟩, ⟨by omega, by omega⟩, fun _ => ?_, fun h => absurd h (by omega)⟩
    refine loop (P := fun k => ∀ g', RefScr g1 g' → rL (d + 5) m_X12_likely 50 [some (vR 134), some (vI s), some (vL (pd (loF2 (g0 135) (g0 137) s) (pd (lwF (g0 135) s) 1 n) k)), none, some (vI ((k : Int))), none, none] [] dd sh (g') K) (n := m) ?_ ?_ 0 (by omega) g hr
    · intro g' hr'
      refine r_X12_likely_50 ?_
      rw [(RE.of hs hr').1]
      exact ⟨⟨by omega, by omega⟩, ⟨by omega, by omega⟩, fun _ => hK g' hr', fun h => absurd h (by omega)⟩
    · intro k hk ih g' hr'
      have l0 := hI.nn.l0 k (by omega)
      obtain ⟨p, hp⟩ := Int.eq_ofNat_of_zero_le l0.2.1.1
      obtain ⟨c, hc⟩ := Int.eq_ofNat_of_zero_le l0.2.2.1.1
      have hst : pd (loF2 (g0 135) (g0 137) s) (pd (lwF (g0 135) s) 1 n) (k + 1) = pd (loF2 (g0 135) (g0 137) s) (pd (lwF (g0 135) s) 1 n) k * (if g0 135 (88 + 3 * k) = 1 then oddsA (g0 135) (g0 137) (g0 135 3) p c (bt s p) else 10 - oddsA (g0 135) (g0 137) (g0 135 3) p c (bt s p)) := by
        show _ * loF2 (g0 135) (g0 137) s k = _
        unfold loF2
        rw [hp, hc]; rfl
      refine r_X12_likely_50 ?_
      rw [(RE.of hs hr').1, show (86 + 3 * (k : Int)).toNat = 86 + 3 * k by omega, show (86 + 3 * (k : Int) + 1).toNat = 87 + 3 * k by omega, show (86 + 3 * (k : Int) + 2).toNat = 88 + 3 * k by omega, hp, hc]
      refine ⟨⟨by omega, by omega⟩, ⟨by omega, by omega⟩, fun h => absurd h (by omega), fun _ => ⟨by omega, by omega, by omega, by omega, ?_⟩⟩
      refine s_X12_has h0.1 h0.2 (by omega) (by omega) fun r er r0 r1 => ?_
      rw [show ((p : Int)).toNat = p from rfl] at er
      have hob := oddsA_b (g0 135) (g0 137) (g0 135 3) p c r
      refine o_of hI (RE.of hs hr') (by omega) ⟨by omega, by omega⟩ (by omega) (by omega) (by omega) (by omega) ⟨by omega, by omega⟩ fun g2 f2 => ?_
      have h8 := ih g2 (hr'.tr f2.scr)
      rw [hst, ← er] at h8
      rw [(RE.of hs (hr'.tr f2.scr)).1]
      refine ⟨by omega, by omega, ⟨by omega, by omega⟩, fun h => ⟨⟨by omega, by omega⟩, ?_⟩, fun h => ⟨⟨by omega, by omega⟩, ?_⟩⟩
      · rw [if_neg h] at h8; exact h8
      · rw [if_pos h] at h8; exact h8
  · intro k hk ih
    have hw := hI.w (p := k) (by omega) (by omega)
    refine r_X12_likely_5 ?_
    rw [e5]
    refine ⟨⟨by omega, by omega⟩, ⟨by omega, by omega⟩, fun h => absurd h (by omega), fun _ => ?_⟩
    refine s_X12_has h0.1 h0.2 (by omega) (by omega) fun r er r0 r1 => ⟨⟨by omega, by omega⟩, fun h => ?_, fun h => ?_⟩
    · have h8 := ih
      rw [show pd (lwF (g0 135) s) 1 (k + 1) = pd (lwF (g0 135) s) 1 k * lwF (g0 135) s k from rfl, show lwF (g0 135) s k = 1 from if_pos (by rw [← h, er]; rfl)] at h8
      exact h8
    · have h8 := ih
      rw [show pd (lwF (g0 135) s) 1 (k + 1) = pd (lwF (g0 135) s) 1 k * lwF (g0 135) s k from rfl, show lwF (g0 135) s k = g0 135 (22 + 7 * k) from if_neg (fun e => h (by rw [er]; exact e))] at h8
      refine s_get6 (by omega) ?_
      rw [e5]
      exact ⟨⟨by omega, by omega⟩, h8⟩
theorem bits1 : ∀ p, p < 6 → sm (bt ((1 : Int) * 2 ^ p)) 10 = 1 := by decide +kernel
theorem bt_sum_le (s : Int) {n m : Nat} (h : n ≤ m) : sm (bt s) n ≤ sm (bt s) m := by
  induction h with
  | refl => exact Int.le_refl _
  | step _ ih => rename_i k _; have := bt01 s k; show _ ≤ sm (bt s) k + bt s k; omega
theorem p2 {p : Nat} (h : p < 6) : 0 ≤ (1 : Int) * 2 ^ p ∧ (1 : Int) * 2 ^ p ≤ 32 := by
  have h1 := pow2_pos p
  have h2 := pow2_le (q := p) (p := 5) (by omega)
  omega
noncomputable def guF (a T : Nat → Int) (n m p : Nat) : Int := likA a T n m ((1 : Int) * 2 ^ p)
theorem Inv.lik {dd : List (Nat × Nat)} {sh : Nat → Nat → Nat} {g : Nat → Nat → Int} (hI : Inv dd sh g) {n m : Nat} (hn : g 135 0 = n) (hm : g 135 5 = m) {s : Int} (hs : sm (bt s) 10 ≤ 2) : 0 ≤ likA (g 135) (g 137) n m s ∧ likA (g 135) (g 137) n m s ≤ 980100000000 := by
  have en := hI.s.n
  have hs0 := hI.nn.s0
  exact likA_b (by omega) (fun p hp => (hI.w (by omega) (by omega)).2) (Int.le_trans (bt_sum_le s (by omega)) hs)
theorem sim_guess : S_guess := by
  intro dd sh g hI
  have hA := hI.s.ab
  have en := hA.n
  have hs0 := hI.nn.s0
  obtain ⟨n, hn⟩ := Int.eq_ofNat_of_zero_le en.1
  obtain ⟨m, hm⟩ := Int.eq_ofNat_of_zero_le hs0.2.1
  have hb : ∀ p, p < 6 → 0 ≤ guF (g 135) (g 137) n m p ∧ guF (g 135) (g 137) n m p ≤ 980100000000 := fun p hp => hI.lik hn hm (by rw [bits1 p hp]; decide)
  have hmx : ∀ k, k ≤ n → 0 ≤ (am (guF (g 135) (g 137) n m) 0 k).2 ∧ (am (guF (g 135) (g 137) n m) 0 k).2 ≤ 980100000000 := by
    intro k hk
    rcases am_inv (guF (g 135) (g 137) n m) 0 k with e | ⟨j, hj, e, -⟩
    · rw [e]; exact ⟨by decide, by decide⟩
    · rw [e]; exact hb j (by omega)
  have hres := am_i32 (guF (g 135) (g 137) n m) 0 (n := n) (by omega)
  unfold SimI
  refine mkI (ls := [some (vR 1)]) rfl rfl rfl rfl rfl (r_X11_guess_0 ?_)
  refine mkI (ls := [some (vR 121), none, none, none, none, none, none]) rfl rfl rfl rfl rfl (r_X0_likeliest_0 ?_)
  refine loop (P := fun k => ∀ g', ClScr g g' → rI 198 m_X0_likeliest 7 [some (vR 121), some (vI ((am (guF (g 135) (g 137) n m) 0 k).1)), some (vL ((am (guF (g 135) (g 137) n m) 0 k).2)), none, some (vI ((k : Int))), none, none] [] dd sh (g') (fun r1 g2 => cI 200 m_X12_guess [vR 134] dd sh g2 (fun r' g3 => r1 = r' ∧ i32 r1 ∧ Inv dd sh g3))) (n := n) ?_ ?_ 0 (by omega) g ClScr.rf
  · intro g1 hs
    refine r_X0_likeliest_7 ?_
    rw [hs 3 (by omega)]
    have en' := hI.s.n
    refine ⟨⟨by omega, by omega⟩, ⟨by omega, by omega⟩, fun _ => ?_, fun h => absurd h (by omega)⟩
    refine mkI (ls := [some (vR 134), none, none, none, none]) rfl rfl rfl rfl rfl (r_X12_guess_0 ?_)
    refine loop (P := fun k => ∀ g', RefScr g1 g' → rI 199 m_X12_guess 7 [some (vR 134), some (vI ((am (guF (g 135) (g 137) n m) 0 k).1)), some (vL ((am (guF (g 135) (g 137) n m) 0 k).2)), none, some (vI ((k : Int)))] [] dd sh (g') (fun r' g3 => (am (guF (g 135) (g 137) n m) 0 n).1 = r' ∧ i32 (am (guF (g 135) (g 137) n m) 0 n).1 ∧ Inv dd sh g3)) (n := n) ?_ ?_ 0 (by omega) g1 RefScr.rf
    · intro g' hr
      refine r_X12_guess_7 ?_
      rw [(RE.of hs hr).1]
      exact ⟨⟨by omega, by omega⟩, ⟨by omega, by omega⟩, fun _ => ⟨rfl, hres, hI.scr hs hr⟩, fun h => absurd h (by omega)⟩
    · intro k hk ih g' hr
      have hbk := hb k (by omega)
      have hmk := hmx k (by omega)
      have hp2 := p2 (p := k) (by omega)
      refine r_X12_guess_7 ?_
      rw [(RE.of hs hr).1, show ((k : Int)).toNat = k from rfl]
      refine ⟨⟨by omega, by omega⟩, ⟨by omega, by omega⟩, fun h => absurd h (by omega), fun _ => ⟨by omega, by omega, ?_⟩⟩
      refine s_X12_likely hI hs hr hn hm (by omega) fun g2 hr2 => ?_
      refine ⟨⟨by unfold guF at hbk; omega, by unfold guF at hbk; omega⟩, ⟨by omega, by omega⟩, lcmp32, fun h => ?_, fun h => ?_⟩
      · rw [lcmp_gt] at h
        refine s_X12_likely hI hs hr2 hn hm (by omega) fun g3 hr3 => ?_
        have h8 := ih g3 hr3
        rw [show am (guF (g 135) (g 137) n m) 0 (k + 1) = ((k : Int), guF (g 135) (g 137) n m k) from if_pos h] at h8
        exact h8
      · rw [lcmp_le] at h
        have h8 := ih g2 hr2
        rw [show am (guF (g 135) (g 137) n m) 0 (k + 1) = am (guF (g 135) (g 137) n m) 0 k from if_neg (Int.not_lt.mpr h)] at h8
        exact h8
  · intro k hk ih g' hs
    have hbk := hb k (by omega)
    have hmk := hmx k (by omega)
    have hp2 := p2 (p := k) (by omega)
    have en' := hI.s.n
    refine r_X0_likeliest_7 ?_
    rw [hs 3 (by omega), show ((k : Int)).toNat = k from rfl]
    refine ⟨⟨by omega, by omega⟩, ⟨by omega, by omega⟩, fun h => absurd h (by omega), fun _ => ⟨by omega, by omega, ?_⟩⟩
    refine s_X0_weightIf hI hs hn hm (by omega) fun g2 hs2 => ?_
    refine ⟨⟨by unfold guF at hbk; omega, by unfold guF at hbk; omega⟩, ⟨by omega, by omega⟩, lcmp32, fun h => ?_, fun h => ?_⟩
    · rw [lcmp_le] at h
      have h8 := ih g2 hs2
      rw [show am (guF (g 135) (g 137) n m) 0 (k + 1) = am (guF (g 135) (g 137) n m) 0 k from if_neg (Int.not_lt.mpr h)] at h8
      exact h8
    · rw [lcmp_gt] at h
      have h8 := ih g2 hs2
      rw [show am (guF (g 135) (g 137) n m) 0 (k + 1) = ((k : Int), guF (g 135) (g 137) n m k) from if_pos h] at h8
      exact h8
