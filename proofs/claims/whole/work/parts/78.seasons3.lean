-- seasons alike
theorem sim_seasons : S_seasons := by
  intro dd sh g hI a1 a2 h1 h2
  have hA := hI.s.ab
  have en := hA.n
  have em := hA.m
  have hru := hI.h.ru
  have htx := hI.h.tx
  have hst := hI.h.st
  obtain ⟨n, hn⟩ := Int.eq_ofNat_of_zero_le en.1
  obtain ⟨m, hm⟩ := Int.eq_ofNat_of_zero_le em.1
  obtain ⟨k4, hk4⟩ := Int.eq_ofNat_of_zero_le hst.2.1
  have h22 : g 134 22 = 1 := hI.x.2.2.2.2
  have bad : ¬ ((0 ≤ a1 ∧ a1 ≤ 9999) ∧ 1 ≤ a2 ∧ a2 ≤ 30) → cI 200 m_X12_seasons [vR 134, vI a1, vI a2] dd sh g (fun r' g3 => (-1 : Int) = r' ∧ i32 (-1) ∧ Inv dd sh g3) := by
    intro c
    refine mkI (ls := [some (vR 134), some (vI a1), some (vI a2), none, none]) rfl rfl rfl rfl rfl (r_X12_seasons_0 ?_)
    refine s_X12_isIn h1 ⟨by decide, by decide⟩ ⟨by decide, by decide⟩ (fun _ _ => ⟨⟨by decide, by decide⟩, fun h => absurd h (by decide), fun _ => ?_⟩) (fun _ => ⟨⟨by decide, by decide⟩, fun _ => ⟨rfl, ⟨by decide, by decide⟩, hI⟩, fun h => absurd rfl h⟩)
    exact s_X12_isIn h2 ⟨by decide, by decide⟩ ⟨by decide, by decide⟩ (fun _ _ => absurd ⟨⟨by assumption, by assumption⟩, by assumption, by assumption⟩ c) (fun _ => ⟨⟨by decide, by decide⟩, fun h => absurd rfl h, fun _ => ⟨rfl, ⟨by decide, by decide⟩, hI⟩⟩)
  unfold SimI
  refine mkI (ls := [some (vR 1), some (vI a1), some (vI a2)]) rfl rfl rfl rfl rfl (r_X11_seasons_0 ?_)
  refine ⟨h1, fun h => bad (by omega), fun u1 => ⟨fun h => bad (by omega), fun u2 => ⟨h2, fun h => bad (by omega), fun u3 => ⟨fun u4 => ?_, fun h => bad (by omega)⟩⟩⟩⟩
  obtain ⟨seed, rfl⟩ := Int.eq_ofNat_of_zero_le u1
  obtain ⟨N, rfl⟩ := Int.eq_ofNat_of_zero_le (show 0 ≤ a2 by omega)
  refine s_X5_drawSeasons (y := (g 134 23, g 134 24)) hI.s hI.h hI.xt hn hm (by omega) (by omega) fun g1 f hS1 hH1 hAB hlo => ?_
  have e5 : g1 135 = g 135 := f 135 (by decide) (by decide) (by decide) (by decide) (by decide) (by decide) (by decide)
  have e7 : g1 137 = g 137 := f 137 (by decide) (by decide) (by decide) (by decide) (by decide) (by decide) (by decide)
  have e4 : g1 134 = g 134 := f 134 (by decide) (by decide) (by decide) (by decide) (by decide) (by decide) (by decide)
  have hnt1 := hS1.night
  have hX1 : RXt dd sh g1 (g 135) (g1 137) := by rw [e7]; exact hI.xt.fr rfl fun q hq => f q (by omega) (by omega) (by omega) (by omega) (by omega) (by omega) (by omega)
  rw [← e7] at hS1 hH1 hAB hlo hnt1
  refine mkI (ls := [some (vR 134), some (vI ((seed : Int))), some (vI ((N : Int))), none, none]) rfl rfl rfl rfl rfl (r_X12_seasons_0 ?_)
  refine s_X12_isIn h1 ⟨by decide, by decide⟩ ⟨by decide, by decide⟩ (fun _ _ => ⟨⟨by decide, by decide⟩, fun h => absurd h (by decide), fun _ => ?_⟩) (fun h => absurd h (by omega))
  refine s_X12_isIn h2 ⟨by decide, by decide⟩ ⟨by decide, by decide⟩ (fun _ _ => ⟨⟨by decide, by decide⟩, fun _ => ?_, fun h => absurd h (by decide)⟩) (fun h => absurd h (by omega))
  refine s_X12_keepX (n := k4) (by rw [e5]; exact hk4) (by omega) fun g2 f2 hb hx => ?_
  rw [e5] at hb hx
  have er : g2 135 = kpA (g 135) := keepB_kpA hk4 (by omega) hb hx
  have hp0 : PR g1 (up g2 135 12 ((seed : Int) * 2 + 113)) (sn (g1 137) n m (g 135) ((seed : Int) * 2 + 113) (g 134 23, g 134 24) 0) := PR.up (s := (kpA (g 135), (g 134 23, g 134 24))) ⟨fun q q1 q2 q3 q4 => f2 q q2, fun k k1 k2 => by rw [f2 134 (by decide)], er, by rw [f2 134 (by decide), e4], by rw [f2 134 (by decide), e4]⟩
  have lo : ∀ i k, i ≤ N → k < 4 ∨ (5 ≤ k ∧ k < 10) ∨ (86 ≤ k ∧ k < 184) ∨ (∃ p, p < 6 ∧ k = 22 + 7 * p) → (sn (g1 137) n m (g 135) ((seed : Int) * 2 + 113) (g 134 23, g 134 24) i).1 k = g 135 k := by
    intro i k hi hk
    have hk' : k < 4 ∨ (5 ≤ k ∧ k < 10) ∨ (86 ≤ k ∧ k < 184) ∨ (22 ≤ k ∧ k < 58 ∧ k % 7 = 1) := by
      rcases hk with h | h | h | ⟨p, h, h'⟩ <;> omega
    rw [hlo i k hi (by omega) (fun p hp => by omega) (fun c hc => by omega), kpA_lo (by omega) (by omega)]
  refine loop (P := fun j => ∀ g', PR g1 g' (sn (g1 137) n m (g 135) ((seed : Int) * 2 + 113) (g 134 23, g 134 24) j) → rI 199 m_X12_seasons 42 [some (vR 134), none, some (vI ((N : Int))), some (vI ((j : Int))), none] [] dd sh (g') (fun r' g3 => g1 3 12 = r' ∧ i32 (g1 3 12) ∧ Inv dd sh g3)) (n := N) ?_ ?_ 0 (by omega) _ hp0
  · intro g3 hp
    refine r_X12_seasons_42 ⟨⟨by omega, by omega⟩, ⟨by omega, by omega⟩, fun _ => ⟨?_, ⟨by omega, by omega⟩, ?_⟩, fun h => absurd h (by omega)⟩
    · rw [hp.2.2.1]; exact hnt1.1
    · refine hI.step (g1 := g1) (fun q hq => f q (by omega) (by omega) (by omega) (by omega) (by omega) (by omega) (by omega)) ⟨fun q hq => hp.1 q (by omega) (by omega) (by omega) (by omega), fun k hk => hp.2.1 k (by omega) (by omega)⟩ (by rw [hp.2.2.1]; exact hS1) ?_ (by rw [hp.2.2.1]; exact hH1) (by rw [hp.2.2.1]; exact lo N 2 (Nat.le_refl _) (by omega))
      rw [hp.2.2.1]
      have := RN.fr hI.nn (b := (sn (g1 137) n m (g 135) ((seed : Int) * 2 + 113) (g 134 23, g 134 24) N).1) (fun k hk => lo N k (Nat.le_refl _) (by omega)) (fun p hp => lo N _ (Nat.le_refl _) (Or.inr (Or.inr (Or.inr ⟨p, hp, rfl⟩))))
      have fr : ∀ q, 12 ≤ q ∧ q ≤ 19 → g1 q = g q := fun q hq => f q (by omega) (by omega) (by omega) (by omega) (by omega) (by omega) (by omega)
      unfold RNc
      rw [fr 12 (by decide), fr 13 (by decide), fr 14 (by decide), fr 16 (by decide), fr 17 (by decide), fr 18 (by decide), fr 19 (by decide)]
      exact this
  · intro j hj ih g3 hp
    have hAj := hAB j (by omega)
    have l0 := lo j 0 (by omega) (by omega)
    have l1 := lo j 1 (by omega) (by omega)
    have l2 := lo j 2 (by omega) (by omega)
    have l3 := lo j 3 (by omega) (by omega)
    have hx := hAj.x
    refine r_X12_seasons_42 ⟨⟨by omega, by omega⟩, ⟨by omega, by omega⟩, fun h => absurd h (by omega), fun _ => ?_⟩
    refine mkV (ls := [some (vR 134)]) rfl rfl rfl rfl rfl (r_X12_anew_0 ?_)
    rw [hp.2.2.1, Int.tmod_eq_emod_of_nonneg (by omega)]
    refine ⟨⟨by omega, by omega⟩, ⟨by omega, by omega⟩, ?_⟩
    have hp2 := hp.up (j := 12) (v := dr ((sn (g1 137) n m (g 135) ((seed : Int) * 2 + 113) (g 134 23, g 134 24) j).1 12))
    have lu : ∀ k, k ≠ 12 → (upR (sn (g1 137) n m (g 135) ((seed : Int) * 2 + 113) (g 134 23, g 134 24) j).1 12 (dr ((sn (g1 137) n m (g 135) ((seed : Int) * 2 + 113) (g 134 23, g 134 24) j).1 12)), (sn (g1 137) n m (g 135) ((seed : Int) * 2 + 113) (g 134 23, g 134 24) j).2).1 k = (sn (g1 137) n m (g 135) ((seed : Int) * 2 + 113) (g 134 23, g 134 24) j).1 k := fun k hk => upR_off hk
    exact s_X12_happens (g1 := g1) (a0 := g 135) (n := n) (m := m) (s := (upR (sn (g1 137) n m (g 135) ((seed : Int) * 2 + 113) (g 134 23, g 134 24) j).1 12 (dr ((sn (g1 137) n m (g 135) ((seed : Int) * 2 + 113) (g 134 23, g 134 24) j).1 12)), (sn (g1 137) n m (g 135) ((seed : Int) * 2 + 113) (g 134 23, g 134 24) j).2)) hX1 hru.2 htx.2 ((lu 2 (by decide)).trans l2) ((lu 3 (by decide)).trans l3) ((lu 0 (by decide)).trans (l0.trans hn)) ((lu 1 (by decide)).trans (l1.trans hm)) hAj.draw hp2 (by rw [e4]; exact h22) hx fun g4 h4 => ih g4 h4
