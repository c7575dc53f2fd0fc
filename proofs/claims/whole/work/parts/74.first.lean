-- the first sign of one
def SB (q : Nat) (s s' : ST) : Prop := RLo s.1 s'.1 ∧ (0 ≤ s.2.2 ∧ s.2.2 < 64) ∧ (0 ≤ s'.2.2 ∧ s'.2.2 < 64) ∧ bt s.2.2 q = bt s'.2.2 q ∧ 0 ≤ s.2.1 ∧ (s.2.1 = 0 → s.2.2 = 0)
theorem g1_SB {T : Nat → Int} {c p q : Nat} {s s' : ST} (h : SB q s s') (hp : p < 6) (hc : c < 7) (hq : q < 6) : SB q (g1 true T c s p) (g1 false T c s' p) := by
  obtain ⟨h1, h2, h3, h4, h5, h6⟩ := h
  have e20 := h1 (20 + 7 * p) (by omega) (by omega)
  have e12 := h1 12 (by decide) (by decide)
  have eo : oddsA s.1 T (s.1 3) p c (s.1 (16 + 7 * p)) = oddsA s'.1 T (s'.1 3) p c (s'.1 (16 + 7 * p)) := by
    rw [oddsA_BK h1.bk hp hc, h1 3 (by decide) (by decide), h1 (16 + 7 * p) (by omega) (by omega)]
  unfold g1
  rw [e20, e12, eo]
  by_cases c1 : s'.1 (20 + 7 * p) = 0
  · rw [if_pos c1, if_pos c1]; exact ⟨h1, h2, h3, h4, h5, h6⟩
  · rw [if_neg c1, if_neg c1]
    have hu := h1.up 12 (v := dr (s'.1 12)) (v' := dr (s'.1 12)) rfl
    by_cases c2 : s'.1 12 % 10 < oddsA s'.1 T (s'.1 3) p c (s'.1 (16 + 7 * p))
    · rw [if_pos c2, if_pos c2]
      have i1 := ior_bt (x := s.2.2) (n := p) h2.1 (by omega) (by omega)
      have i2 := ior_bt (x := s'.2.2) (n := p) h3.1 (by omega) (by omega)
      refine ⟨fun k k1 k2 => ?_, ⟨i1.1, i1.2.2.1 h2.2 hp⟩, ⟨i2.1, i2.2.2.1 h3.2 hp⟩, ?_, ?_, ?_⟩
      · show wrA true (upR s.1 12 (dr (s'.1 12))) c p k = wrA false (upR s'.1 12 (dr (s'.1 12))) c p k
        rw [wrA_low _ _ _ _ k1 k2, wrA_low _ _ _ _ k1 k2]
        exact hu k k1 k2
      · show bt (ior s.2.2 ((1 : Int) * 2 ^ p)) q = bt (ior s'.2.2 ((1 : Int) * 2 ^ p)) q
        rw [i1.2.2.2 q (by omega), i2.2.2.2 q (by omega), h4]
      · show 0 ≤ s.2.1 + 1; omega
      · intro h9
        have h9' : s.2.1 + 1 = 0 := h9
        omega
    · rw [if_neg c2, if_neg c2]
      exact ⟨hu, h2, h3, h4, h5, h6⟩
theorem gA_SB {T : Nat → Int} {n m q : Nat} {s s' : ST} (h : SB q s s') (hn : n ≤ 6) (hm : m ≤ 7) (hq : q < 6) : SB q (gA true T n m s) (gA false T n m s') := by
  refine foldN_rel2 (R := SB q) (N := m) (fun s s' k hk hs => ?_) h m (Nat.le_refl _)
  unfold gT
  have et : tgA s.1 k = tgA s'.1 k := by unfold tgA; rw [hs.1 (60 + 4 * k) (by omega) (by omega), hs.1 (61 + 4 * k) (by omega) (by omega)]
  rw [et]
  refine foldN_rel2 (R := SB q) (f := fun s _ => gS true T n k s) (f' := fun s _ => gS false T n k s) (N := tgA s'.1 k) (fun s s' _ _ hs => ?_) hs _ (Nat.le_refl _)
  exact foldN_rel2 (R := SB q) (f := g1 true T k) (f' := g1 false T k) (N := n) (fun s s' p hp hs => g1_SB hs (by omega) (by omega) hq) hs n (Nat.le_refl _)
noncomputable def fsW (T : Nat → Int) (n m : Nat) (a : Nat → Int) (q J : Nat) : Nat → Int
  | 0 => -1
  | k + 1 => if fsW T n m a q J k = -1 then (if bt (rit false T n m a (min (k + 1) J)).2.2 q = 0 then -1 else ((k + 1 : Nat) : Int)) else fsW T n m a q J k
theorem fsW_stay {T : Nat → Int} {n m : Nat} {a : Nat → Int} {q J k : Nat} (h : fsW T n m a q J k ≠ -1) : ∀ N, k ≤ N → fsW T n m a q J N = fsW T n m a q J k := by
  intro N hN
  induction hN with
  | refl => rfl
  | step _ ih =>
    rename_i N _
    show (if fsW T n m a q J N = -1 then (if bt (rit false T n m a (min (N + 1) J)).2.2 q = 0 then -1 else ((N + 1 : Nat) : Int)) else fsW T n m a q J N) = _
    rw [if_neg (by rw [ih]; exact h)]; exact ih
theorem fsW_b {T : Nat → Int} {n m : Nat} {a : Nat → Int} {q J : Nat} : ∀ k, -1 ≤ fsW T n m a q J k ∧ fsW T n m a q J k ≤ k := by
  intro k
  induction k with
  | zero => exact ⟨Int.le_refl _, by show (-1 : Int) ≤ ((0 : Nat) : Int); decide⟩
  | succ k ih =>
    unfold fsW
    split
    · split
      · omega
      · omega
    · omega
/-- not yet after k nights -/
def FI (T : Nat → Int) (n m : Nat) (a : Nat → Int) (q J k : Nat) : Prop := fsW T n m a q J k = -1 ∧ (0 ≤ (rit false T n m a (min k J)).2.2 ∧ (rit false T n m a (min k J)).2.2 < 64) ∧ bt (rit false T n m a (min k J)).2.2 q = 0
theorem FI.zero {T : Nat → Int} {n m : Nat} {a : Nat → Int} {q J : Nat} : FI T n m a q J 0 := by
  unfold FI
  rw [Nat.zero_min]
  refine ⟨rfl, ⟨by show (0 : Int) ≤ 0; decide, by show (0 : Int) < 64; decide⟩, ?_⟩
  show bt 0 q = 0
  unfold bt
  rw [Int.zero_ediv]; rfl
theorem FI.step {T : Nat → Int} {n m : Nat} {a : Nat → Int} {q J k : Nat} (h : FI T n m a q J k) (hk : k < J) (hn : n ≤ 6) (hm : m ≤ 7) (hq : q < 6) :
    RLo (paS true T n m ((rit true T n m a k).1, 0, 0)).1 (rit false T n m a (k + 1)).1 ∧ (paS true T n m ((rit true T n m a k).1, 0, 0)).1 = (rit true T n m a (k + 1)).1 ∧
    (0 ≤ (paS true T n m ((rit true T n m a k).1, 0, 0)).2.2 ∧ (paS true T n m ((rit true T n m a k).1, 0, 0)).2.2 < 64) ∧ (0 ≤ (rit false T n m a (k + 1)).2.2 ∧ (rit false T n m a (k + 1)).2.2 < 64) ∧
    bt (paS true T n m ((rit true T n m a k).1, 0, 0)).2.2 q = bt (rit false T n m a (k + 1)).2.2 q ∧ 0 ≤ (paS true T n m ((rit true T n m a k).1, 0, 0)).2.1 ∧ ((paS true T n m ((rit true T n m a k).1, 0, 0)).2.1 = 0 → (paS true T n m ((rit true T n m a k).1, 0, 0)).2.2 = 0) := by
  obtain ⟨h1, h2, h3⟩ := h
  rw [Nat.min_eq_left (by omega)] at h2 h3
  have hrw := rit_RW (T := T) (n := n) (m := m) (a := a) hn hm
  have hsh := paS_Sh (w := true) (T := T) (n := n) (m := m) (x := (rit true T n m a k).2.1) (s := rit true T n m a k) (s' := ((rit true T n m a k).1, 0, 0)) ⟨rfl, (Int.add_zero _).symm⟩
  have e : (paS true T n m ((rit true T n m a k).1, 0, 0)).1 = (rit true T n m a (k + 1)).1 := hsh.1.symm
  have hb0 : bt 0 q = 0 := by unfold bt; rw [Int.zero_ediv]; rfl
  have hsb := gA_SB (T := T) (n := n) (m := m) (q := q) (s := ((rit true T n m a k).1, 0, 0)) (s' := rit false T n m a k) ⟨(hrw k).1, ⟨by show (0 : Int) ≤ 0; decide, by show (0 : Int) < 64; decide⟩, h2, by rw [h3]; exact hb0, by show (0 : Int) ≤ 0; decide, fun _ => rfl⟩ hn hm hq
  exact ⟨by rw [e]; exact (hrw (k + 1)).1, e, hsb.2.1, hsb.2.2.1, hsb.2.2.2.1, hsb.2.2.2.2.1, hsb.2.2.2.2.2⟩
theorem FI.next {T : Nat → Int} {n m : Nat} {a : Nat → Int} {q J k : Nat} (h : FI T n m a q J k) (hb : 0 ≤ (rit false T n m a (min (k + 1) J)).2.2 ∧ (rit false T n m a (min (k + 1) J)).2.2 < 64) :
    (bt (rit false T n m a (min (k + 1) J)).2.2 q = 0 → FI T n m a q J (k + 1)) ∧ (bt (rit false T n m a (min (k + 1) J)).2.2 q ≠ 0 → fsW T n m a q J (k + 1) = ((k + 1 : Nat) : Int)) := by
  refine ⟨fun h0 => ⟨?_, hb, h0⟩, fun h0 => ?_⟩
  · unfold fsW; rw [if_pos h.1, if_pos h0]
  · unfold fsW; rw [if_pos h.1, if_neg h0]
theorem FI.same {T : Nat → Int} {n m : Nat} {a : Nat → Int} {q J k : Nat} (h : FI T n m a q J k) (hk : J ≤ k) : FI T n m a q J (k + 1) := by
  have e : min (k + 1) J = min k J := by omega
  refine (h.next (by rw [e]; exact h.2.1)).1 (by rw [e]; exact h.2.2)
theorem s_rehearse1 {d : Nat} {dd : List (Nat × Nat)} {sh : Nat → Nat → Nat} {g : Nat → Nat → Int} {K : Int → (Nat → Nat → Int) → Prop} {a : Nat → Int} {n m : Nat} (hS : RSc g a) (hH : RHc g a) (hX : RXt dd sh g a (g 137)) (hn : a 0 = n) (hm : a 1 = m)
    (hK1 : a 10 < 9999 → ∀ g', NF g g' → RSc g' (paS true (g 137) n m (a, 0, 0)).1 → g' 118 5 = (paS true (g 137) n m (a, 0, 0)).2.2 → K (paS true (g 137) n m (a, 0, 0)).2.1 g') (hK0 : a 10 = 9999 → K 0 g) : cI (d + 7) m_X5_rehearse [(vR 118), (vI 1)] dd sh g K := by
  have hnt := hS.night
  refine mkI (ls := [some (vR 118), some (vI 1), none, none]) rfl rfl rfl rfl rfl (r_X5_rehearse_0 ?_)
  refine r_X5_rehearse_4 ⟨⟨by decide, by decide⟩, ⟨by decide, by decide⟩, fun h => absurd h (by decide), fun _ => ⟨⟨by omega, by omega⟩, fun h => hK0 (by omega), fun h => ?_⟩⟩
  refine s_X5_giveNight (g0 := g) (a0 := a) hH hX hn hm hS NF.rf (by omega) fun g2 f2 hS2 hb2 => ?_
  rw [Int.zero_add]
  exact r_X5_rehearse_4 ⟨⟨by decide, by decide⟩, ⟨by decide, by decide⟩, fun _ => hK1 (by omega) g2 f2 hS2 hb2, fun h => absurd h (by decide)⟩
theorem sim_firstSign : S_firstSign := by
  intro dd sh g hI a1 h1
  have hA := hI.s.ab
  have en := hA.n
  have em := hA.m
  have hnt := hI.s.night
  have hru := hI.h.ru
  have htx := hI.h.tx
  obtain ⟨n, hn⟩ := Int.eq_ofNat_of_zero_le en.1
  obtain ⟨m, hm⟩ := Int.eq_ofNat_of_zero_le em.1
  unfold SimI
  by_cases c : 0 ≤ a1 ∧ a1 < g 135 0
  · obtain ⟨q, rfl⟩ := Int.eq_ofNat_of_zero_le c.1
    obtain ⟨J, j1, j2, j3⟩ := Jof (g 135 10) 60 hnt.2
    have hfb := fsW_b (T := g 137) (n := n) (m := m) (a := g 135) (q := q) (J := J) 60
    have hrw := rit_RW (T := g 137) (n := n) (m := m) (a := g 135) (by omega) (by omega)
    have zz : ∀ w j k, k < 10 ∨ (14 ≤ k ∧ k < 2524) → (∀ p, p < 6 → k ≠ 19 + 7 * p) → (∀ c, c < 7 → k ≠ 61 + 4 * c) → (rit w (g 137) n m (g 135) j).1 k = g 135 k := fun w j k hk h19 h61 => rit_lo (by omega) (by omega) hk h19 h61 j
    -- the reference
    have ref : ∀ g1, AF g g1 → RSc g1 (g 135) → (∀ i, i ≤ J → fsW (g 137) n m (g 135) q J i = -1 → AB (rit true (g 137) n m (g 135) i).1) → cI 200 m_X12_firstSign [vR 134, vI (q : Int)] dd sh g1 (fun r' g3 => fsW (g 137) n m (g 135) q J 60 = r' ∧ i32 (fsW (g 137) n m (g 135) q J 60) ∧ Inv dd sh g3) := by
      intro g1 f hS1 hAB
      have e5 : g1 135 = g 135 := f 135 (by decide) (by decide) (by decide) (by decide) (by decide)
      have e7 : g1 137 = g 137 := f 137 (by decide) (by decide) (by decide) (by decide) (by decide)
      have e4 : g1 134 = g 134 := f 134 (by decide) (by decide) (by decide) (by decide) (by decide)
      refine mkI (ls := [some (vR 134), some (vI ((q : Int))), none, none]) rfl rfl rfl rfl rfl (r_X12_firstSign_0 ?_)
      refine s_X12_isSuspect (by rw [e5]; exact en) h1 (fun _ _ => ⟨⟨by decide, by decide⟩, fun _ => ?_, fun h => absurd h (by decide)⟩) (fun h => absurd h (by rw [e5]; omega))
      refine s_X12_begin fun g2 f1 f2 f3 f4 => ?_
      have x5 : g2 135 = g 135 := by rw [f1 135 (by decide) (by decide)]; exact e5
      have x7 : g2 137 = g 137 := by rw [f1 137 (by decide) (by decide)]; exact e7
      have fin : ∀ g' J' r, PR g2 g' (rit false (g 137) n m (g 135) J') → r = fsW (g 137) n m (g 135) q J 60 → cV 199 m_X12_putBack [(vR 134)] dd sh g' (fun g4 => fsW (g 137) n m (g 135) q J 60 = r ∧ i32 (fsW (g 137) n m (g 135) q J 60) ∧ Inv dd sh g4) := by
        intro g' J' r hp hr
        refine s_X12_putBack fun g3 b1 b2 b3 b4 b5 => ⟨hr.symm, ⟨by omega, by omega⟩, hI.af f hS1 ⟨fun q hq => ?_, fun k hk => ?_⟩⟩
        · by_cases q135 : q = 135
          · subst q135
            funext k
            by_cases hk : 10 ≤ k ∧ k < 86
            · rw [b4 k hk.1 hk.2, hp.1 142 (by decide) (by decide) (by decide) (by decide), f4 k hk.1 hk.2]
            · rw [b5 k (by omega), hp.2.2.1, e5]
              by_cases hk2 : k < 2524
              · exact zz false J' k (by omega) (fun p hp => by omega) (fun c hc => by omega)
              · exact rit_bk (by omega) (by omega) (by omega) J'
          · rw [b1 q (by omega) q135, hp.1 q (by omega) q135 (by omega) (by omega), f1 q (by omega) (by omega)]
        · by_cases k22 : k = 22
          · rw [k22, b3, e4]; exact hI.x.2.2.2.2.symm
          · rw [b2 k k22, hp.2.1 k (by omega) (by omega), f2 k k22 (by omega) (by omega)]
      refine loop (P := fun k => ∀ g', FI (g 137) n m (g 135) q J k → PR g2 g' (rit false (g 137) n m (g 135) (min k J)) → rI 199 m_X12_firstSign 18 [some (vR 134), some (vI ((q : Int))), some (vI ((-1))), some (vI (((k + 1 : Nat) : Int)))] [] dd sh (g') (fun r' g3 => fsW (g 137) n m (g 135) q J 60 = r' ∧ i32 (fsW (g 137) n m (g 135) q J 60) ∧ Inv dd sh g3)) (n := 60) ?_ ?_ 0 (by omega) g2 FI.zero ⟨fun _ _ _ _ _ => rfl, fun _ _ _ => rfl, by rw [Nat.zero_min]; exact x5, by rw [Nat.zero_min]; exact f3.2.1, by rw [Nat.zero_min]; exact f3.2.2⟩
      · intro g' hfi hp
        exact r_X12_firstSign_18 ⟨⟨by decide, by decide⟩, fun _ => fin g' _ _ hp hfi.1.symm, fun h => absurd h (by decide)⟩
      · intro k hk ih g' hfi hp
        have z10 := rit_10 (w := false) (T := g 137) (n := n) (m := m) (a := g 135) (min k J)
        have found : ∀ g', PR g2 g' (rit false (g 137) n m (g 135) (min (k + 1) J)) → fsW (g 137) n m (g 135) q J (k + 1) = ((k + 1 : Nat) : Int) → rI 199 m_X12_firstSign 18 [some (vR 134), some (vI ((q : Int))), some (vI (((k + 1 : Nat) : Int))), some (vI (((k + 1 : Nat) : Int) + 1))] [] dd sh (g') (fun r' g3 => fsW (g 137) n m (g 135) q J 60 = r' ∧ i32 (fsW (g 137) n m (g 135) q J 60) ∧ Inv dd sh g3) := by
          intro g' hp he
          have hst := fsW_stay (k := k + 1) (show fsW (g 137) n m (g 135) q J (k + 1) ≠ -1 by omega) 60 (by omega)
          exact r_X12_firstSign_18 ⟨⟨by omega, by omega⟩, fun _ => fin g' _ _ hp (by omega), fun _ => ⟨⟨by omega, by omega⟩, fun _ => fin g' _ _ hp (by omega), fun h => absurd h (by omega)⟩⟩
        refine r_X12_firstSign_18 ?_
        rw [hp.2.2.1, hp.2.2.2.2, z10]
        refine ⟨⟨by omega, by omega⟩, fun h => absurd h (by omega), fun _ => ⟨⟨by decide, by decide⟩, fun h => absurd rfl h, fun _ => ⟨⟨by omega, by omega⟩, fun h9 => ?_, fun h9 => ?_⟩⟩⟩
        · have hJk : J ≤ k := by omega
          refine s_X12_has hfi.2.1.1 (by have := hfi.2.1.2; omega) (by omega) (by omega) fun r er r0 r1 => ⟨⟨by omega, by omega⟩, fun _ => ?_, fun h => absurd (er.trans hfi.2.2) h⟩
          have e : min (k + 1) J = min k J := by omega
          have := ih g' (hfi.same hJk) (by rw [e]; exact hp)
          exact this
        · have hkJ : k < J := by omega
          have e : min k J = k := by omega
          have e' : min (k + 1) J = k + 1 := by omega
          rw [e] at hp
          obtain ⟨s1, s2, s3, s4, s5, s6, s7⟩ := hfi.step hkJ (by omega) (by omega) (by omega)
          refine s_X12_pass (g0 := g2) (a0 := (rit false (g 137) n m (g 135) k).1) (w := false) (n := n) (m := m) (s := rit false (g 137) n m (g 135) k) (by rw [x7]; exact hI.xt.fr (zz false k 2 (by omega) (fun p hp => by omega) (fun c hc => by omega)) fun q hq => by rw [f1 q (by omega) (by omega)]; exact f q (by omega) (by omega) (by omega) (by omega) (by omega)) (by rw [zz false k 3 (by omega) (fun p hp => by omega) (fun c hc => by omega), zz false k 2 (by omega) (fun p hp => by omega) (fun c hc => by omega)]; exact hru.2) (by rw [zz false k 2 (by omega) (fun p hp => by omega) (fun c hc => by omega)]; exact htx.2) (by rw [zz false k 0 (by omega) (fun p hp => by omega) (fun c hc => by omega)]; exact hn) (by rw [zz false k 1 (by omega) (fun p hp => by omega) (fun c hc => by omega)]; exact hm) (fun _ _ _ _ => rfl) (AB.lk (hAB k (by omega) hfi.1) hA (hrw k).1 (zz false k 0 (by omega) (fun p hp => by omega) (fun c hc => by omega)) (zz false k 1 (by omega) (fun p hp => by omega) (fun c hc => by omega)) (rit_bk (by omega) (by omega) (Or.inr rfl) _) (fun k hk => rit_bk (by omega) (by omega) (Or.inl hk) _)) hp (by rw [f3.1]; rfl) fun g3 h3 => ?_
          rw [x7] at h3
          have h3' : PR g2 g3 (rit false (g 137) n m (g 135) (k + 1)) := h3
          rw [h3'.2.2.2.2]
          have hnx := hfi.next (by rw [e']; exact s4)
          rw [e'] at hnx
          refine s_X12_has s4.1 (by omega) (by omega) (by omega) fun r er r0 r1 => ⟨⟨by omega, by omega⟩, fun h => ?_, fun h => ?_⟩
          · exact ih g3 (hnx.1 (by rw [← h, er]; rfl)) (by rw [e']; exact h3')
          · exact found g3 (by rw [e']; exact h3') (hnx.2 (fun e9 => h (by rw [er]; exact e9)))
    refine mkI (ls := [some (vR 1), some (vI ((q : Int)))]) rfl rfl rfl rfl rfl (r_X11_firstSign_0 ?_)
    refine s_X7_hasSuspect hI.s h1 (fun _ _ => ⟨⟨by decide, by decide⟩, fun h => absurd h (by decide), fun _ => ?_⟩) (fun h => absurd h (by omega))
    refine mkI (ls := [some (vR 118), some (vI ((q : Int))), none, none]) rfl rfl rfl rfl rfl (r_X5_nightsToSign_0 ?_)
    refine s_X7_saveTo (p1 := 120) (by omega) (T_120 dd) fun ga fa sv => ?_
    have e7 : ga 137 = g 137 := fa 137 (by decide)
    have hSa : RSc ga (g 135) := rsR hI.s fun q h1 h2 => fa q (by omega)
    have hABn : ∀ k, (∀ i, i ≤ min k J → fsW (g 137) n m (g 135) q J i = -1 → AB (rit true (g 137) n m (g 135) i).1) → fsW (g 137) n m (g 135) q J k ≠ -1 ∨ J ≤ k → ∀ i, i ≤ J → fsW (g 137) n m (g 135) q J i = -1 → AB (rit true (g 137) n m (g 135) i).1 := by
      intro k h hk i hi hf
      by_cases hik : i ≤ min k J
      · exact h i hik hf
      · rcases hk with hk | hk
        · have := fsW_stay hk i (by omega)
          omega
        · omega
    have fin : ∀ g' j r, NF ga g' → RSc g' (rit true (g 137) n m (g 135) j).1 → (∀ i, i ≤ J → fsW (g 137) n m (g 135) q J i = -1 → AB (rit true (g 137) n m (g 135) i).1) → r = fsW (g 137) n m (g 135) q J 60 → cV 198 m_X7_restoreFrom [(vR 3), (vR 120)] dd sh g' (fun g4 => cI 200 m_X12_firstSign [vR 134, vI (q : Int)] dd sh g4 (fun r' g3 => r = r' ∧ i32 r ∧ Inv dd sh g3)) := by
      intro g' j r f hS hAB hr
      rw [hr]
      refine s_back (d := 197) hI.s fa sv f hS (zz true j 0 (by omega) (fun p hp => by omega) (fun c hc => by omega)) (zz true j 1 (by omega) (fun p hp => by omega) (fun c hc => by omega)) (fun p hp => ⟨zz true j _ (by omega) (fun p hp => by omega) (fun c hc => by omega), zz true j _ (by omega) (fun p hp => by omega) (fun c hc => by omega), zz true j _ (by omega) (fun p hp => by omega) (fun c hc => by omega)⟩) (fun c hc => ⟨zz true j _ (by omega) (fun p hp => by omega) (fun c hc => by omega), zz true j _ (by omega) (fun p hp => by omega) (fun c hc => by omega)⟩) fun g6 f6 hS6 => ref g6 f6 hS6 hAB
    refine loop (P := fun k => ∀ g', NF ga g' → RSc g' (rit true (g 137) n m (g 135) (min k J)).1 → FI (g 137) n m (g 135) q J k → (∀ i, i ≤ min k J → fsW (g 137) n m (g 135) q J i = -1 → AB (rit true (g 137) n m (g 135) i).1) → rI 198 m_X5_nightsToSign 15 [some (vR 118), some (vI ((q : Int))), some (vI ((-1))), some (vI (((k + 1 : Nat) : Int)))] [] dd sh (g') (fun r1 g2 => cI 200 m_X12_firstSign [vR 134, vI (q : Int)] dd sh g2 (fun r' g3 => r1 = r' ∧ i32 r1 ∧ Inv dd sh g3))) (n := 60) ?_ ?_ 0 (by omega) ga NF.rf (by rw [Nat.zero_min]; exact hSa) FI.zero (fun i hi _ => by rw [Nat.zero_min] at hi; rw [show i = 0 by omega]; exact hA)
    · intro g' f hS hfi hAB
      exact r_X5_nightsToSign_15 ⟨⟨by decide, by decide⟩, fun _ => fin g' _ _ f hS (hABn 60 hAB (Or.inr j1)) hfi.1.symm, fun h => absurd h (by decide)⟩
    · intro k hk ih g' f hS hfi hAB
      have z10 := rit_10 (w := true) (T := g 137) (n := n) (m := m) (a := g 135) (min k J)
      have x7 : g' 137 = g 137 := by rw [f 137 (by decide) (by decide) (by decide) (by decide)]; exact e7
      have hHr : RHc g' (rit true (g 137) n m (g 135) (min k J)).1 := RHc.fr hI.h (fun q hq => by rw [f q (by omega) (by omega) (by omega) (by omega)]; exact fa q (by omega)) (fun k' hk' => zz true _ k' (by omega) (fun p hp => by omega) (fun c hc => by omega)) (by rw [zz true _ 0 (by omega) (fun p hp => by omega) (fun c hc => by omega)]; exact Int.le_refl _) (by rw [zz true _ 1 (by omega) (fun p hp => by omega) (fun c hc => by omega)]; exact Int.le_refl _)
      have hXr : RXt dd sh g' (rit true (g 137) n m (g 135) (min k J)).1 (g' 137) := by
        rw [x7]
        exact hI.xt.fr (zz true _ 2 (by omega) (fun p hp => by omega) (fun c hc => by omega)) fun q hq => by rw [f q (by omega) (by omega) (by omega) (by omega)]; exact fa q (by omega)
      have y0 : (rit true (g 137) n m (g 135) (min k J)).1 0 = n := by rw [zz true _ 0 (by omega) (fun p hp => by omega) (fun c hc => by omega)]; exact hn
      have y1 : (rit true (g 137) n m (g 135) (min k J)).1 1 = m := by rw [zz true _ 1 (by omega) (fun p hp => by omega) (fun c hc => by omega)]; exact hm
      refine r_X5_nightsToSign_15 ⟨⟨by omega, by omega⟩, fun h => absurd h (by omega), fun _ => ⟨⟨by decide, by decide⟩, fun h => absurd rfl h, fun _ => ?_⟩⟩
      refine s_rehearse1 (d := 191) hS hHr hXr y0 y1 (fun h9 g2 f2 hS2 hb2 => ?_) (fun h9 => ?_)
      · have hkJ : k < J := by omega
        have e : min k J = k := by omega
        have e' : min (k + 1) J = k + 1 := by omega
        rw [e] at hS hAB hS2 hb2 y0 y1 ⊢
        rw [x7] at hS2 hb2 ⊢
        obtain ⟨s1, s2, s3, s4, s5, s6, s7⟩ := hfi.step hkJ (by omega) (by omega) (by omega)
        have hcnt := gA_cnt true (g 137) (n := n) (m := m) ((rit true (g 137) n m (g 135) k).1, 0, 0) (by omega) (by omega) hS.ab y0 y1
        have hcnt' : (paS true (g 137) n m ((rit true (g 137) n m (g 135) k).1, 0, 0)).2.1 ≤ 0 + 84 := hcnt.2
        have hnx := hfi.next (by rw [e']; exact s4)
        rw [e'] at hnx
        have hABs : ∀ i, i ≤ min (k + 1) J → fsW (g 137) n m (g 135) q J i = -1 → AB (rit true (g 137) n m (g 135) i).1 := by
          intro i hi hf
          by_cases hik : i = k + 1
          · subst hik; rw [← s2]; exact hS2.ab
          · exact hAB i (by omega) hf
        have hS2' : RSc g2 (rit true (g 137) n m (g 135) (k + 1)).1 := by rw [← s2]; exact hS2
        refine ⟨⟨by omega, by omega⟩, fun h0 => ?_, fun h0 => ?_⟩
        · have hb9 := s7 (by omega)
          rw [hb9] at s5
          have hz : bt 0 q = 0 := by unfold bt; rw [Int.zero_ediv]; rfl
          exact ih g2 (f.tr f2) (by rw [e']; exact hS2') (hnx.1 (by rw [← s5]; exact hz)) hABs
        · rw [hb2]
          refine s_X11_hasBit s3.1 (by omega) (by omega) (by omega) fun r er r0 r1 => ⟨⟨by omega, by omega⟩, fun h => ?_, fun h => ?_⟩
          · exact ih g2 (f.tr f2) (by rw [e']; exact hS2') (hnx.1 (by rw [← s5]; exact er.symm.trans h)) hABs
          · have hfk := hnx.2 (fun e9 => h (by rw [er]; exact s5.trans e9))
            have hne : fsW (g 137) n m (g 135) q J (k + 1) ≠ -1 := by omega
            have hst := fsW_stay hne 60 (by omega)
            have hfin := fin g2 (k + 1) ((k + 1 : Nat) : Int) (f.tr f2) hS2' (hABn (k + 1) hABs (Or.inl hne)) (by omega)
            exact r_X5_nightsToSign_15 ⟨⟨by omega, by omega⟩, fun _ => hfin, fun _ => ⟨⟨by omega, by omega⟩, fun _ => hfin, fun h => absurd h (by omega)⟩⟩
      · have hJk : J ≤ k := by omega
        have e : min (k + 1) J = min k J := by omega
        exact ⟨⟨by decide, by decide⟩, fun _ => ih g' f (by rw [e]; exact hS) (hfi.same hJk) (by rw [e]; exact hAB), fun h => absurd h (by decide)⟩
  · refine mkI (ls := [some (vR 1), some (vI a1)]) rfl rfl rfl rfl rfl (r_X11_firstSign_0 ?_)
    refine s_X7_hasSuspect hI.s h1 (fun _ _ => absurd ⟨by assumption, by assumption⟩ c) (fun _ => ⟨⟨by decide, by decide⟩, fun _ => ?_, fun h => absurd rfl h⟩)
    refine mkI (ls := [some (vR 134), some (vI a1), none, none]) rfl rfl rfl rfl rfl (r_X12_firstSign_0 ?_)
    exact s_X12_isSuspect en h1 (fun _ _ => absurd ⟨by assumption, by assumption⟩ c) (fun h => ⟨⟨by decide, by decide⟩, fun h => absurd rfl h, fun _ => ⟨rfl, ⟨by decide, by decide⟩, hI⟩⟩)
