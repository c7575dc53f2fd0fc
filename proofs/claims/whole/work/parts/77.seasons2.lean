-- seasons, both
theorem hapA_off {n m : Nat} {a : Nat → Int} {x : Int} {k : Nat} (hx : 0 ≤ x) (hn : n ≤ 6) (hm : m ≤ 7) (hp : ∀ p, p < 6 → k ≠ 18 + 7 * p ∧ k ≠ 20 + 7 * p) (hc : ∀ c, c < 7 → k ≠ 60 + 4 * c ∧ k ≠ 61 + 4 * c) : hapA n m a x k = a k := by
  unfold hapA
  split
  · split
    · rfl
    · obtain ⟨c, _, c2, c3⟩ := modN (m := m) hx (by omega)
      rw [c2, show ((c : Int)).toNat = c from rfl, upR_off (hc c (by omega)).1]
  · split
    · split
      · rfl
      · obtain ⟨c, _, c2, c3⟩ := modN (m := m) hx (by omega)
        rw [c2, show ((c : Int)).toNat = c from rfl]
        split
        · rw [upR_off (hc c (by omega)).2]
        · rfl
    · split
      · split
        · rfl
        · obtain ⟨c, _, c2, c3⟩ := modN (m := n) hx (by omega)
          rw [c2, show ((c : Int)).toNat = c from rfl, upR_off (hp c (by omega)).2]
      · split
        · rfl
        · obtain ⟨c, _, c2, c3⟩ := modN (m := n) hx (by omega)
          rw [c2, show ((c : Int)).toNat = c from rfl]
          split
          · rw [upR_off (hp c (by omega)).1]
          · rfl
theorem hapS_off {T : Nat → Int} {n m : Nat} {s : ST} {x : Int} {k : Nat} (hx : 0 ≤ x) (hn : n ≤ 6) (hm : m ≤ 7) (hk : k < 10 ∨ (14 ≤ k ∧ k < 2524)) (hp : ∀ p, p < 6 → k ≠ 18 + 7 * p ∧ k ≠ 19 + 7 * p ∧ k ≠ 20 + 7 * p) (hc : ∀ c, c < 7 → k ≠ 60 + 4 * c ∧ k ≠ 61 + 4 * c) : (hapS T n m s x).1 k = s.1 k := by
  unfold hapS
  split
  · split
    · rfl
    · exact paS_off hn hm hk (fun p h => (hp p h).2.1) (fun c h => (hc c h).2)
  · exact hapA_off hx hn hm (fun p h => ⟨(hp p h).1, (hp p h).2.2⟩) hc
noncomputable def sn (T : Nat → Int) (n m : Nat) (a : Nat → Int) (v : Int) (y : Int × Int) : Nat → ST
  | 0 => (upR (kpA a) 12 v, y)
  | k + 1 => hapS T n m (upR (sn T n m a v y k).1 12 (dr ((sn T n m a v y k).1 12)), (sn T n m a v y k).2) ((sn T n m a v y k).1 12)
def SN (g g' : Nat → Nat → Int) : Prop := ∀ q, q ≠ 2 → q ≠ 3 → q ≠ 5 → q ≠ 7 → q ≠ 10 → (q < 21 ∨ 50 < q) → (q < 116 ∨ 119 < q) → g' q = g q
theorem RS.set12 {s nv se ts ha he le bk a s' : Nat → Int} {v : Int} (H : RS s nv se ts ha he le bk a) (hv : 0 ≤ v ∧ v ≤ 30402) (e : ∀ k, k ≠ 14 → s' k = s k) (e14 : s' 14 = v) : RS s' nv se ts ha he le bk (upR a 12 v) := by
  have hbt := H.bits
  refine RS.chg H (upR_off (by omega)) (upR_off (by omega)) (e 0 (by decide)) (e 7 (by decide)) (e 1 (by decide)) ?_ ?_ ?_ ?_ ?_ ?_ (fun p hp hq => ?_) (fun p hp => ?_) (fun p hp hq => ?_) (fun c hc hq => ?_) (fun c hc hq => ?_) (fun i hi => ?_) (fun p hp hq => ?_) (fun c hc hq => ?_)
  · rw [e 12 (by decide), upR_off (by omega)]; exact H.night
  · rw [e 13 (by decide), upR_off (by omega)]; exact H.tak
  · rw [e14, upR_at]; exact ⟨rfl, hv⟩
  · rw [e 17 (by decide), upR_off (by omega)]; exact H.wr
  · rw [e 16 (by decide)]; exact H.el
  · rw [e 2 (by decide), e 8 (by decide), e 9 (by decide)]; exact hbt.2.2
  · rw [e 2 (by decide), upR_off (by omega), upR_off (by omega), upR_off (by omega)]; exact (H.pp p hp hq).2.2.imp_right fun h => h.imp_right And.left
  · exact ⟨(H.pb p hp).2.1, (H.pb p hp).2.2.2⟩
  · rw [e 2 (by decide)]; exact (H.pr p hp hq).2
  · rw [e 8 (by decide), e 9 (by decide), upR_off (by omega), upR_off (by omega)]; exact (H.cc c hc hq).2.2
  · rw [e 8 (by decide), e 9 (by decide)]; exact H.cr c hc hq
  · rw [upR_off (by omega)] at hi
    rw [e 16 (by decide), upR_off (by omega)]; exact H.bk i hi
  · rw [upR_off (by omega), upR_off (by omega), upR_off (by omega)]; exact ⟨rfl, rfl, rfl⟩
  · rw [upR_off (by omega), upR_off (by omega)]; exact ⟨rfl, rfl⟩
theorem s_X5_drawSeasons {d : Nat} {dd : List (Nat × Nat)} {sh : Nat → Nat → Nat} {g : Nat → Nat → Int} {K : (Nat → Nat → Int) → Prop} {a : Nat → Int} {n m N seed : Nat} {y : Int × Int} (hS : RSc g a) (hH : RHc g a) (hX : RXt dd sh g a (g 137)) (hn : a 0 = n) (hm : a 1 = m) (hN : N ≤ 30) (hs9 : seed ≤ 9999)
    (hK : ∀ g', SN g g' → RSc g' (sn (g 137) n m a ((seed : Int) * 2 + 113) y N).1 → RHc g' (sn (g 137) n m a ((seed : Int) * 2 + 113) y N).1 → (∀ i, i ≤ N → AB (sn (g 137) n m a ((seed : Int) * 2 + 113) y i).1) → (∀ i k, i ≤ N → k < 10 ∨ (14 ≤ k ∧ k < 2524) → (∀ p, p < 6 → k ≠ 18 + 7 * p ∧ k ≠ 19 + 7 * p ∧ k ≠ 20 + 7 * p) → (∀ c, c < 7 → k ≠ 60 + 4 * c ∧ k ≠ 61 + 4 * c) → (sn (g 137) n m a ((seed : Int) * 2 + 113) y i).1 k = kpA a k) → K g') : cV (d + 8) m_X5_drawSeasons [(vR 118), (vI (seed : Int)), (vI (N : Int))] dd sh g K := by
  have en := hS.n
  have em := hS.m
  have hst := hH.st
  obtain ⟨k4, hk4⟩ := Int.eq_ofNat_of_zero_le hst.2.1
  refine mkV (ls := [some (vR 118), some (vI ((seed : Int))), some (vI ((N : Int))), none, none, none]) rfl rfl rfl rfl rfl (r_X5_drawSeasons_0 ?_)
  refine s_X1_noteStep hS hH hk4 fun g2 f2 hb2 => ?_
  have hS2 : RSc g2 (kpA a) := RS.fr (nsS hS f2) (fun k hk => kpA_lo (by omega) (by omega)) (fun p q hp hq => kpA_lo (by omega) (by omega))
  have hH2 := hb2 _ (kpA_keepB hk4 (by omega))
  have e72 : g2 137 = g 137 := f2 137 (by decide) (by decide)
  have hS3 : RSc (up g2 3 14 ((seed : Int) * 2 + 113)) (sn (g 137) n m a ((seed : Int) * 2 + 113) y 0).1 := RS.set12 (s := g2 3) hS2 (by omega) (fun k hk => by rw [up_at, if_neg hk]) (by rw [up_at, if_pos rfl])
  have zsn : ∀ k, k ≠ 12 → (sn (g 137) n m a ((seed : Int) * 2 + 113) y 0).1 k = kpA a k := fun k hk => upR_off hk
  have hH3 : RHc (up g2 3 14 ((seed : Int) * 2 + 113)) (sn (g 137) n m a ((seed : Int) * 2 + 113) y 0).1 := RHc.fr hH2 (fun q hq => up_off (by omega)) (fun k hk => upR_off (by omega)) (by rw [zsn 0 (by decide)]; exact Int.le_refl _) (by rw [zsn 1 (by decide)]; exact Int.le_refl _)
  refine loop (P := fun j => ∀ g', SN g g' → RSc g' (sn (g 137) n m a ((seed : Int) * 2 + 113) y j).1 → RHc g' (sn (g 137) n m a ((seed : Int) * 2 + 113) y j).1 → (∀ i, i ≤ j → AB (sn (g 137) n m a ((seed : Int) * 2 + 113) y i).1) → (∀ i k, i ≤ j → k < 10 ∨ (14 ≤ k ∧ k < 2524) → (∀ p, p < 6 → k ≠ 18 + 7 * p ∧ k ≠ 19 + 7 * p ∧ k ≠ 20 + 7 * p) → (∀ c, c < 7 → k ≠ 60 + 4 * c ∧ k ≠ 61 + 4 * c) → (sn (g 137) n m a ((seed : Int) * 2 + 113) y i).1 k = kpA a k) → rV (d + 7) m_X5_drawSeasons 22 [some (vR 118), none, some (vI ((N : Int))), some (vI ((j : Int))), none, none] [] dd sh (g') K) (n := N) ?_ ?_ 0 (by omega) _ (fun q q2 q3 q5 q7 q10 h5 h6 => by rw [up_off q3]; exact f2 q q2 h5) hS3 hH3 (fun i hi => by rw [show i = 0 by omega]; exact hS3.ab) (fun i k hi hk _ _ => by rw [show i = 0 by omega]; exact upR_off (by omega))
  · intro g' f hSg hHg hAB hlo
    exact r_X5_drawSeasons_22 ⟨⟨by omega, by omega⟩, ⟨by omega, by omega⟩, fun _ => hK g' f hSg hHg hAB hlo, fun h => absurd h (by omega)⟩
  · intro j hj ih g' f hSg hHg hAB hlo
    have x7 : g' 137 = g 137 := f 137 (by decide) (by decide) (by decide) (by decide) (by decide) (by decide) (by decide)
    have hsucc : sn (g 137) n m a ((seed : Int) * 2 + 113) y (j + 1) = hapS (g 137) n m (upR (sn (g 137) n m a ((seed : Int) * 2 + 113) y j).1 12 (dr ((sn (g 137) n m a ((seed : Int) * 2 + 113) y j).1 12)), (sn (g 137) n m a ((seed : Int) * 2 + 113) y j).2) ((sn (g 137) n m a ((seed : Int) * 2 + 113) y j).1 12) := rfl
    have q0 : (sn (g 137) n m a ((seed : Int) * 2 + 113) y j).1 0 = n := by rw [hlo j 0 (Nat.le_refl _) (by omega) (fun p hp => by omega) (fun c hc => by omega), kpA_lo (by decide) (by decide)]; exact hn
    have q1 : (sn (g 137) n m a ((seed : Int) * 2 + 113) y j).1 1 = m := by rw [hlo j 1 (Nat.le_refl _) (by omega) (fun p hp => by omega) (fun c hc => by omega), kpA_lo (by decide) (by decide)]; exact hm
    have q2 : (sn (g 137) n m a ((seed : Int) * 2 + 113) y j).1 2 = a 2 := by rw [hlo j 2 (Nat.le_refl _) (by omega) (fun p hp => by omega) (fun c hc => by omega), kpA_lo (by decide) (by decide)]
    have ih' : ∀ g'', SN g g'' → RSc g'' (sn (g 137) n m a ((seed : Int) * 2 + 113) y (j + 1)).1 → (∀ q, q = 2 ∨ (21 ≤ q ∧ q ≤ 50) → g'' q = g' q) → rV (d + 7) m_X5_drawSeasons 22 [some (vR 118), none, some (vI ((N : Int))), some (vI ((j : Int) + 1)), none, none] [] dd sh (g'') K := by
      intro g'' f'' hS'' fr
      have off : ∀ k, k < 10 ∨ (14 ≤ k ∧ k < 2524) → (∀ p, p < 6 → k ≠ 18 + 7 * p ∧ k ≠ 19 + 7 * p ∧ k ≠ 20 + 7 * p) → (∀ c, c < 7 → k ≠ 60 + 4 * c ∧ k ≠ 61 + 4 * c) → (sn (g 137) n m a ((seed : Int) * 2 + 113) y (j + 1)).1 k = (sn (g 137) n m a ((seed : Int) * 2 + 113) y j).1 k := by
        intro k hk hp hc
        rw [hsucc, hapS_off hSg.x.2.1 (by omega) (by omega) hk hp hc]
        exact upR_off (by omega)
      refine ih g'' f'' hS'' (RHc.fr hHg fr (fun k hk => off k (by omega) (fun p hp => by omega) (fun c hc => by omega)) (by rw [off 0 (by omega) (fun p hp => by omega) (fun c hc => by omega)]; exact Int.le_refl _) (by rw [off 1 (by omega) (fun p hp => by omega) (fun c hc => by omega)]; exact Int.le_refl _)) (fun i hi => ?_) (fun i k hi hk hp hc => ?_)
      · by_cases hij : i = j + 1
        · rw [hij]; exact hS''.ab
        · exact hAB i (by omega)
      · by_cases hij : i = j + 1
        · rw [hij, off k hk hp hc]; exact hlo j k (Nat.le_refl _) hk hp hc
        · exact hlo i k (by omega) hk hp hc
    clear ih hK
    generalize sn (g 137) n m a ((seed : Int) * 2 + 113) y j = s at hsucc hSg hHg q0 q1 q2 ih'
    rw [hsucc] at ih'
    have hx := hSg.x
    refine r_X5_drawSeasons_22 ⟨⟨by omega, by omega⟩, ⟨by omega, by omega⟩, fun h => absurd h (by omega), fun _ => ?_⟩
    refine s_X7_draw (by omega) ?_
    rw [hx.1, Int.tmod_eq_emod_of_nonneg hx.2.1]
    have hSd : RSc (up g' 3 14 (dr (s.1 12))) (upR s.1 12 (dr (s.1 12))) := RS.draw (s := g' 3) hSg (fun k hk => by rw [up_at, if_neg hk]) (by rw [up_at, if_pos rfl])
    have fd : SN g (up g' 3 14 (dr (s.1 12))) := fun q q2 q3 q5 q7 q10 h5 h6 => by rw [up_off q3]; exact f q q2 q3 q5 q7 q10 h5 h6
    have hx6 := hx.2
    refine ⟨⟨by omega, by omega⟩, ⟨by omega, by omega⟩, fun h3 => ⟨fun h4 => ?_, fun h4 => ?_⟩, fun h3 => ?_⟩
    · refine s_X5_drawSuspect (n := n) (m := m) hSd (by rw [upR_off (by decide)]; exact q0) hx6 (by omega) fun g4 f4 hS4 => ih' g4 (fun q q2 q3 q5 q7 q10 h5 h6 => by rw [f4 q q3 q5]; exact fd q q2 q3 q5 q7 q10 h5 h6) ?_ (fun q hq => by rw [f4 q (by omega) (by omega), up_off (by omega)])
      unfold hapS; rw [if_neg (by omega)]; exact hS4
    · refine s_X5_drawScene (n := n) (m := m) hSd (by rw [upR_off (by decide)]; exact q1) hx6 (by omega) fun g4 f4 hS4 => ih' g4 (fun q q2 q3 q5 q7 q10 h5 h6 => by rw [f4 q q3]; exact fd q q2 q3 q5 q7 q10 h5 h6) ?_ (fun q hq => by rw [f4 q (by omega), up_off (by omega)])
      unfold hapS; rw [if_neg (by omega)]; exact hS4
    · have hnd := hSd.night
      refine ⟨⟨by omega, by omega⟩, fun h9 => ?_, fun h9 => ?_⟩
      · refine ih' _ fd ?_ (fun q hq => up_off (by omega))
        unfold hapS; rw [if_pos h3, if_pos (by show 9999 ≤ upR s.1 12 (dr (s.1 12)) 10; omega)]; exact hSd
      · have hHd : RHc (up g' 3 14 (dr (s.1 12))) (upR s.1 12 (dr (s.1 12))) := RHc.fr hHg (fun q hq => up_off (by omega)) (fun k hk => upR_off (by omega)) (by rw [upR_off (by decide)]; exact Int.le_refl _) (by rw [upR_off (by decide)]; exact Int.le_refl _)
        have xd7 : up g' 3 14 (dr (s.1 12)) 137 = g 137 := by rw [up_off (by decide)]; exact x7
        have hXd : RXt dd sh (up g' 3 14 (dr (s.1 12))) (upR s.1 12 (dr (s.1 12))) (up g' 3 14 (dr (s.1 12)) 137) := by
          rw [xd7]
          exact hX.fr (by rw [upR_off (by decide)]; exact q2) fun q hq => fd q (by omega) (by omega) (by omega) (by omega) (by omega) (by omega) (by omega)
        refine s_X5_giveNight (n := n) (m := m) hHd hXd (by rw [upR_off (by decide)]; exact q0) (by rw [upR_off (by decide)]; exact q1) hSd NF.rf (by omega) fun g4 f4 hS4 _ => ?_
        rw [xd7] at hS4
        have hsh := paS_Sh (w := true) (T := g 137) (n := n) (m := m) (x := s.2.1) (s := (upR s.1 12 (dr (s.1 12)), s.2)) (s' := (upR s.1 12 (dr (s.1 12)), 0, 0)) ⟨rfl, (Int.add_zero _).symm⟩
        rw [← hsh.1] at hS4
        refine ih' g4 (fun q q2 q3 q5 q7 q10 h5 h6 => by rw [f4 q q3 q7 q10 h6]; exact fd q q2 q3 q5 q7 q10 h5 h6) ?_ (fun q hq => by rw [f4 q (by omega) (by omega) (by omega) (by omega), up_off (by omega)])
        unfold hapS; rw [if_pos h3, if_neg (by show ¬ 9999 ≤ upR s.1 12 (dr (s.1 12)) 10; omega)]; exact hS4
