-- foretold: signs, takings, habits
theorem s_aheadH {d : Nat} {dd : List (Nat × Nat)} {sh : Nat → Nat → Nat} {g : Nat → Nat → Int} {p : Nat} {a : Nat → Int} {n m N J : Nat} {M : Nat} {P : (Nat → Nat → Int) → Prop} (hp6 : p < 6) (hS : RSc g a) (hH : RHc g a) (hX : RXt dd sh g a (g 137)) (hn : a 0 = n) (hm : a 1 = m) (hN : N ≤ 60) (hJ : J ≤ N) (hJ1 : a 10 + J ≤ 9999) (hJ2 : J < N → a 10 + J = 9999) {K : Int → (Nat → Nat → Int) → (Nat → Nat → Int) → Prop}
    (hK : ∀ gc g', RSc gc (rit true (g 137) n m a J).1 → AF g g' → RSc g' a → (∀ i, i ≤ J → RI (g 137) n m a i) → K (rit true (g 137) n m a J).2.1 gc g') : cV (d + 8) m_X7_saveTo [(vR 3), (vR 120)] dd sh g (fun g2 => cI (d + 8) m_X5_rehearse [(vR 118), (vI (N : Int))] dd sh g2 (fun r3 g4 => (0 ≤ (p : Int)) ∧ ((p : Int) < 6) ∧ cV (d + 8) m_X7_restoreFrom [(vR 3), (vR 120)] dd sh g4 (fun g6 => K r3 g4 g6))) := by
  have en := hS.n
  have em := hS.m
  refine s_X7_saveTo (p1 := 120) (by omega) (T_120 dd) fun g2 f2 sv => ?_
  have e7 : g2 137 = g 137 := f2 137 (by decide)
  have hS2 : RSc g2 a := rsR hS fun q h1 h2 => f2 q (by omega)
  refine s_X5_rehearse hS2 (RHc.row2 hH fun q hq => f2 q (by omega)) (by rw [e7]; exact hX.fr rfl fun q hq => f2 q (by omega)) hn hm hN hJ hJ1 hJ2 fun g4 f4 hS4 hRI => ?_
  rw [e7] at hS4 hRI ⊢
  have zz : ∀ k, k < 10 ∨ (14 ≤ k ∧ k < 2524) → (∀ p, p < 6 → k ≠ 19 + 7 * p) → (∀ c, c < 7 → k ≠ 61 + 4 * c) → (rit true (g 137) n m a J).1 k = a k := fun k hk h19 h61 => rit_lo (by omega) (by omega) hk h19 h61 J
  refine ⟨by omega, by omega, ?_⟩
  exact s_back hS f2 sv f4 hS4 (zz 0 (by omega) (fun p hp => by omega) (fun c hc => by omega)) (zz 1 (by omega) (fun p hp => by omega) (fun c hc => by omega)) (fun p hp => ⟨zz _ (by omega) (fun p hp => by omega) (fun c hc => by omega), zz _ (by omega) (fun p hp => by omega) (fun c hc => by omega), zz _ (by omega) (fun p hp => by omega) (fun c hc => by omega)⟩) (fun c hc => ⟨zz _ (by omega) (fun p hp => by omega) (fun c hc => by omega), zz _ (by omega) (fun p hp => by omega) (fun c hc => by omega)⟩) fun g6 f6 hS6 => hK g4 g6 hS4 f6 hS6 hRI
theorem sim_foretold : S_foretold := by
  intro dd sh g hI a1 a2 h1 h2
  have hA := hI.s.ab
  have en := hA.n
  have em := hA.m
  have hnt := hI.s.night
  have hru := hI.h.ru
  have htx := hI.h.tx
  obtain ⟨n, hn⟩ := Int.eq_ofNat_of_zero_le en.1
  obtain ⟨m, hm⟩ := Int.eq_ofNat_of_zero_le em.1
  have bad : ¬ ((1 ≤ a1 ∧ a1 ≤ 60) ∧ 0 ≤ a2 ∧ a2 ≤ 1) → cI 200 m_X12_foretold [vR 134, vI a1, vI a2] dd sh g (fun r' g3 => (-1 : Int) = r' ∧ i32 (-1) ∧ Inv dd sh g3) := by
    intro c
    refine mkI (ls := [some (vR 134), some (vI a1), some (vI a2), none]) rfl rfl rfl rfl rfl (r_X12_foretold_0 ?_)
    refine s_X12_isIn h1 ⟨by decide, by decide⟩ ⟨by decide, by decide⟩ (fun _ _ => ⟨⟨by decide, by decide⟩, fun h => absurd h (by decide), fun _ => ?_⟩) (fun _ => ⟨⟨by decide, by decide⟩, fun _ => ⟨rfl, ⟨by decide, by decide⟩, hI⟩, fun h => absurd rfl h⟩)
    exact s_X12_isIn h2 ⟨by decide, by decide⟩ ⟨by decide, by decide⟩ (fun _ _ => absurd ⟨⟨by assumption, by assumption⟩, by assumption, by assumption⟩ c) (fun _ => ⟨⟨by decide, by decide⟩, fun h => absurd rfl h, fun _ => ⟨rfl, ⟨by decide, by decide⟩, hI⟩⟩)
  unfold SimI
  refine mkI (ls := [some (vR 1), some (vI a1), some (vI a2)]) rfl rfl rfl rfl rfl (r_X11_foretold_0 ?_)
  refine ⟨h1, fun h => bad (by omega), fun hh1 => ⟨fun h => bad (by omega), fun hh2 => ⟨h2, fun h => bad (by omega), fun hh3 => ⟨fun hh4 => ?_, fun h => bad (by omega)⟩⟩⟩⟩
  obtain ⟨N, rfl⟩ := Int.eq_ofNat_of_zero_le (show 0 ≤ a1 by omega)
  obtain ⟨J, j1, j2, j3⟩ := Jof (g 135 10) N hnt.2
  have hrw := rit_RW (T := g 137) (n := n) (m := m) (a := g 135) (by omega) (by omega) J
  have ref : ∀ g1 x, AF g g1 → RSc g1 (g 135) → (∀ i, i ≤ J → RI (g 137) n m (g 135) i) → i32 x → (a2 = 0 → x = (rit false (g 137) n m (g 135) J).2.1) → (a2 ≠ 0 → x = (rit false (g 137) n m (g 135) J).1 11) → cI 200 m_X12_foretold [vR 134, vI (N : Int), vI a2] dd sh g1 (fun r' g3 => x = r' ∧ i32 x ∧ Inv dd sh g3) := by
    intro g1 x f hS1 hRI hx x0 x1
    have e5 : g1 135 = g 135 := f 135 (by decide) (by decide) (by decide) (by decide) (by decide)
    have e7 : g1 137 = g 137 := f 137 (by decide) (by decide) (by decide) (by decide) (by decide)
    have e4 : g1 134 = g 134 := f 134 (by decide) (by decide) (by decide) (by decide) (by decide)
    refine mkI (ls := [some (vR 134), some (vI ((N : Int))), some (vI a2), none]) rfl rfl rfl rfl rfl (r_X12_foretold_0 ?_)
    refine s_X12_isIn h1 ⟨by decide, by decide⟩ ⟨by decide, by decide⟩ (fun _ _ => ⟨⟨by decide, by decide⟩, fun h => absurd h (by decide), fun _ => ?_⟩) (fun h => absurd h (by omega))
    refine s_X12_isIn h2 ⟨by decide, by decide⟩ ⟨by decide, by decide⟩ (fun _ _ => ⟨⟨by decide, by decide⟩, fun _ => ?_, fun h => absurd h (by decide)⟩) (fun h => absurd h (by omega))
    refine s_X12_behind (g1 := g1) (n := n) (m := m) (N := N) (J := J) (w := 11) (by rw [e5]; exact hA) (by rw [e5, e7]; exact hI.xt.fr rfl fun q hq => f q (by omega) (by omega) (by omega) (by omega) (by omega)) (by rw [e5]; exact hru.2) (by rw [e5]; exact htx.2) (by rw [e4]; exact hI.x.2.2.2.2) (by rw [e5]; exact hn) (by rw [e5]; exact hm) (by omega) j1 (by rw [e5]; exact j2) (by rw [e5]; exact j3) (by decide) (by rw [e5, e7]; exact hRI) rfl fun g3 r3 c3 => ?_
    rw [e5, e7] at c3 ⊢
    exact ⟨h2, fun h => ⟨x1 h, hx, hI.af f hS1 r3⟩, fun h => ⟨by rw [c3]; exact x0 h, hx, hI.af f hS1 r3⟩⟩
  refine ⟨fun hz => ?_, fun hz => ?_⟩
  · refine mkI (ls := [some (vR 118), some (vI ((N : Int))), none]) rfl rfl rfl rfl rfl (r_X5_takingsBehind_0 ?_)
    refine s_ahead (d := 190) (M := 0) (P := fun _ => True) (K := fun _ gc g' => cI 200 m_X12_foretold [vR 134, vI (N : Int), vI a2] dd sh g' (fun r' g3 => gc 3 13 = r' ∧ i32 (gc 3 13) ∧ Inv dd sh g3)) hI.s hI.h hI.xt hn hm (by omega) j1 j2 j3 fun gc g1 hSc f hS1 hRI => ?_
    have ht := hSc.tak
    exact ref g1 _ f hS1 hRI ⟨by omega, by omega⟩ (fun h => absurd h hz) (fun _ => by rw [ht.1]; exact hrw.1 11 (by decide) (by decide))
  · refine mkI (ls := [some (vR 118), some (vI ((N : Int))), none]) rfl rfl rfl rfl rfl (r_X5_signsBehind_0 ?_)
    refine s_ahead (d := 190) (M := 0) (P := fun _ => True) (K := fun r _ g' => cI 200 m_X12_foretold [vR 134, vI (N : Int), vI a2] dd sh g' (fun r' g3 => r = r' ∧ i32 r ∧ Inv dd sh g3)) hI.s hI.h hI.xt hn hm (by omega) j1 j2 j3 fun gc g1 hSc f hS1 hRI => ?_
    have hc := (hRI J (Nat.le_refl _)).2
    exact ref g1 _ f hS1 hRI ⟨by omega, by omega⟩ (fun _ => by rw [hrw.2]) (fun h => absurd hz h)
theorem sim_habit : S_habit := by
  intro dd sh g hI a1 a2 h1 h2
  have hA := hI.s.ab
  have en := hA.n
  have em := hA.m
  have hnt := hI.s.night
  have hru := hI.h.ru
  have htx := hI.h.tx
  obtain ⟨n, hn⟩ := Int.eq_ofNat_of_zero_le en.1
  obtain ⟨m, hm⟩ := Int.eq_ofNat_of_zero_le em.1
  have bad : ¬ ((1 ≤ a1 ∧ a1 ≤ 60) ∧ 0 ≤ a2 ∧ a2 < g 135 0) → cI 200 m_X12_habit [vR 134, vI a1, vI a2] dd sh g (fun r' g3 => (-1 : Int) = r' ∧ i32 (-1) ∧ Inv dd sh g3) := by
    intro c
    refine mkI (ls := [some (vR 134), some (vI a1), some (vI a2)]) rfl rfl rfl rfl rfl (r_X12_habit_0 ?_)
    refine s_X12_isIn h1 ⟨by decide, by decide⟩ ⟨by decide, by decide⟩ (fun _ _ => ⟨⟨by decide, by decide⟩, fun h => absurd h (by decide), fun _ => ?_⟩) (fun _ => ⟨⟨by decide, by decide⟩, fun _ => ⟨rfl, ⟨by decide, by decide⟩, hI⟩, fun h => absurd rfl h⟩)
    exact s_X12_isSuspect en h2 (fun _ _ => absurd ⟨⟨by assumption, by assumption⟩, by assumption, by assumption⟩ c) (fun _ => ⟨⟨by decide, by decide⟩, fun _ => ⟨rfl, ⟨by decide, by decide⟩, hI⟩, fun h => absurd rfl h⟩)
  unfold SimI
  refine mkI (ls := [some (vR 1), some (vI a1), some (vI a2)]) rfl rfl rfl rfl rfl (r_X11_habit_0 ?_)
  refine ⟨h1, fun h => bad (by omega), fun hh1 => ⟨fun h => bad (by omega), fun hh2 => ?_⟩⟩
  refine s_X7_hasSuspect hI.s h2 (fun q1 q2 => ⟨⟨by decide, by decide⟩, fun _ => ?_, fun h => absurd h (by decide)⟩) (fun h => ⟨⟨by decide, by decide⟩, fun h => absurd rfl h, fun _ => bad (by omega)⟩)
  obtain ⟨N, rfl⟩ := Int.eq_ofNat_of_zero_le (show 0 ≤ a1 by omega)
  obtain ⟨p, rfl⟩ := Int.eq_ofNat_of_zero_le q1
  obtain ⟨J, j1, j2, j3⟩ := Jof (g 135 10) N hnt.2
  have hrw := rit_RW (T := g 137) (n := n) (m := m) (a := g 135) (by omega) (by omega) J
  refine mkI (ls := [some (vR 118), some (vI ((N : Int))), some (vI ((p : Int))), none]) rfl rfl rfl rfl rfl (r_X5_habitBehind_0 ?_)
  refine s_aheadH (d := 190) (p := p) (M := 0) (P := fun _ => True) (K := fun _ gc g' => cI 200 m_X12_habit [vR 134, vI (N : Int), vI (p : Int)] dd sh g' (fun r' g3 => gc 7 p = r' ∧ i32 (gc 7 p) ∧ Inv dd sh g3)) (by omega) hI.s hI.h hI.xt hn hm (by omega) j1 j2 j3 fun gc g1 hSc f hS1 hRI => ?_
  have e5 : g1 135 = g 135 := f 135 (by decide) (by decide) (by decide) (by decide) (by decide)
  have e7 : g1 137 = g 137 := f 137 (by decide) (by decide) (by decide) (by decide) (by decide)
  have e4 : g1 134 = g 134 := f 134 (by decide) (by decide) (by decide) (by decide) (by decide)
  have z0 : (rit true (g 137) n m (g 135) J).1 0 = n := by rw [rit_lo (by omega) (by omega) (by omega) (fun p hp => by omega) (fun c hc => by omega)]; exact hn
  have hpp := hSc.pp p (by omega) (by omega)
  have hpb := hSc.pb p (by omega)
  refine mkI (ls := [some (vR 134), some (vI ((N : Int))), some (vI ((p : Int)))]) rfl rfl rfl rfl rfl (r_X12_habit_0 ?_)
  refine s_X12_isIn h1 ⟨by decide, by decide⟩ ⟨by decide, by decide⟩ (fun _ _ => ⟨⟨by decide, by decide⟩, fun h => absurd h (by decide), fun _ => ?_⟩) (fun h => absurd h (by omega))
  refine s_X12_isSuspect (by rw [e5]; exact en) h2 (fun _ _ => ⟨⟨by decide, by decide⟩, fun h => absurd h (by decide), fun _ => ?_⟩) (fun h => absurd h (by rw [e5]; omega))
  rw [show (16 + 7 * (p : Int) + 3) = ((19 + 7 * p : Nat) : Int) by omega]
  refine s_X12_behind (g1 := g1) (n := n) (m := m) (N := N) (J := J) (w := 19 + 7 * p) (by rw [e5]; exact hA) (by rw [e5, e7]; exact hI.xt.fr rfl fun q hq => f q (by omega) (by omega) (by omega) (by omega) (by omega)) (by rw [e5]; exact hru.2) (by rw [e5]; exact htx.2) (by rw [e4]; exact hI.x.2.2.2.2) (by rw [e5]; exact hn) (by rw [e5]; exact hm) (by omega) j1 (by rw [e5]; exact j2) (by rw [e5]; exact j3) (by omega) (by rw [e5, e7]; exact hRI) rfl fun g3 r3 c3 => ?_
  rw [e5, e7]
  refine ⟨?_, ⟨by omega, by omega⟩, hI.af f hS1 r3⟩
  rw [hpp.2.2.2.1]
  exact hrw.1 _ (by omega) (by omega)
