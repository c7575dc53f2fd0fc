-- nights one after another
noncomputable def nit (T : Nat → Int) (n m : Nat) (a : Nat → Int) (y : Int) : Nat → ST
  | 0 => (a, 0, y)
  | k + 1 => paS true T n m (kpA (nit T n m a y k).1, (nit T n m a y k).2)
theorem nit_lo {T : Nat → Int} {n m : Nat} {a : Nat → Int} {y : Int} {k : Nat} (hn : n ≤ 6) (hm : m ≤ 7) (hk : k < 10 ∨ (14 ≤ k ∧ k < 184)) (h4 : k ≠ 4) (h19 : ∀ p, p < 6 → k ≠ 19 + 7 * p) (h61 : ∀ c, c < 7 → k ≠ 61 + 4 * c) : ∀ j, (nit T n m a y j).1 k = a k := by
  intro j
  induction j with
  | zero => rfl
  | succ j ih =>
    show (paS true T n m (kpA (nit T n m a y j).1, (nit T n m a y j).2)).1 k = a k
    rw [paS_off hn hm (by omega) h19 h61]
    show kpA (nit T n m a y j).1 k = a k
    rw [kpA_lo h4 (by omega)]
    exact ih
theorem nit_10 {T : Nat → Int} {n m : Nat} {a : Nat → Int} {y : Int} : ∀ j : Nat, (nit T n m a y j).1 10 = a 10 + j := by
  intro j
  induction j with
  | zero => show a 10 = a 10 + ((0 : Nat) : Int); omega
  | succ j ih =>
    show (paS true T n m (kpA (nit T n m a y j).1, (nit T n m a y j).2)).1 10 = _
    rw [paS_10]
    show kpA (nit T n m a y j).1 10 + 1 = _
    rw [kpA_lo (by decide) (by decide), ih]
    omega
def NI (T : Nat → Int) (n m : Nat) (a : Nat → Int) (y : Int) (i : Nat) : Prop := AB (nit T n m a y i).1 ∧ (0 ≤ (nit T n m a y i).1 4 ∧ (nit T n m a y i).1 4 ≤ 30) ∧ 0 ≤ (nit T n m a y i).2.1 ∧ (nit T n m a y i).2.1 ≤ 84 * i
def HN (g g' : Nat → Nat → Int) : Prop := ∀ q, q ≠ 2 → q ≠ 3 → q ≠ 7 → q ≠ 10 → (q < 21 ∨ 50 < q) → (q < 116 ∨ 119 < q) → g' q = g q
theorem s_X5_nightsByHand {d : Nat} {dd : List (Nat × Nat)} {sh : Nat → Nat → Nat} {g : Nat → Nat → Int} {K : Int → (Nat → Nat → Int) → Prop} {a : Nat → Int} {n m N : Nat} {y : Int} (hS : RSc g a) (hH : RHc g a) (hX : RXt dd sh g a (g 137)) (hn : a 0 = n) (hm : a 1 = m) (hN : a 10 + N ≤ 9999)
    (hK : ∀ g', HN g g' → RSc g' (nit (g 137) n m a y N).1 → RHc g' (nit (g 137) n m a y N).1 → (∀ i, i ≤ N → NI (g 137) n m a y i) → K (nit (g 137) n m a y N).2.1 g') : cI (d + 8) m_X5_nightsByHand [(vR 118), (vI ((N : Int)))] dd sh g K := by
  have en := hS.n
  have em := hS.m
  have hnt := hS.night
  refine mkI (ls := [some (vR 118), some (vI ((N : Int))), none, none]) rfl rfl rfl rfl rfl (r_X5_nightsByHand_0 ?_)
  refine loop (P := fun j => ∀ g', HN g g' → RSc g' (nit (g 137) n m a y j).1 → RHc g' (nit (g 137) n m a y j).1 → (∀ i, i ≤ j → NI (g 137) n m a y i) → rI (d + 7) m_X5_nightsByHand 4 [some (vR 118), some (vI ((N : Int))), some (vI ((nit (g 137) n m a y j).2.1)), some (vI ((j : Int)))] [] dd sh (g') K) (n := N) ?_ ?_ 0 (by omega) g (fun _ _ _ _ _ _ _ => rfl) hS hH (fun i hi => ?_)
  · intro g' f hS' hH' hNI
    exact r_X5_nightsByHand_4 ⟨⟨by omega, by omega⟩, ⟨by omega, by omega⟩, fun _ => hK g' f hS' hH' hNI, fun h => absurd h (by omega)⟩
  · intro j hj ih g' f hS' hH' hNI
    have z0 : (nit (g 137) n m a y j).1 0 = n := by rw [nit_lo (by omega) (by omega) (by omega) (by omega) (fun p hp => by omega) (fun c hc => by omega)]; exact hn
    have z1 : (nit (g 137) n m a y j).1 1 = m := by rw [nit_lo (by omega) (by omega) (by omega) (by omega) (fun p hp => by omega) (fun c hc => by omega)]; exact hm
    have z2 : (nit (g 137) n m a y j).1 2 = a 2 := nit_lo (by omega) (by omega) (by omega) (by omega) (fun p hp => by omega) (fun c hc => by omega) j
    have z10 := nit_10 (T := g 137) (n := n) (m := m) (a := a) (y := y) j
    have hst := hH'.st
    have hntj := hS'.night
    have hNIj := hNI j (Nat.le_refl _)
    have e7 : g' 137 = g 137 := f 137 (by decide) (by decide) (by decide) (by decide) (by decide) (by decide)
    have hsucc : nit (g 137) n m a y (j + 1) = paS true (g 137) n m (kpA (nit (g 137) n m a y j).1, (nit (g 137) n m a y j).2) := rfl
    obtain ⟨k4, hk4⟩ := Int.eq_ofNat_of_zero_le hst.2.1
    refine r_X5_nightsByHand_4 ⟨⟨by omega, by omega⟩, ⟨by omega, by omega⟩, fun h => absurd h (by omega), fun _ => ⟨⟨by omega, by omega⟩, fun _ => ?_, fun h => absurd h (by omega)⟩⟩
    refine s_X1_noteStep hS' hH' hk4 fun g2 f2 hb2 => ?_
    have hS2 : RSc g2 (kpA (nit (g 137) n m a y j).1) := RS.fr (nsS hS' f2) (fun k hk => kpA_lo (by omega) (by omega)) (fun p q hp hq => kpA_lo (by omega) (by omega))
    have hH2 := hb2 _ (kpA_keepB hk4 (by omega))
    have k0 : kpA (nit (g 137) n m a y j).1 0 = n := by rw [kpA_lo (by decide) (by decide)]; exact z0
    have k1 : kpA (nit (g 137) n m a y j).1 1 = m := by rw [kpA_lo (by decide) (by decide)]; exact z1
    have k10 : kpA (nit (g 137) n m a y j).1 10 = a 10 + j := by rw [kpA_lo (by decide) (by decide)]; exact z10
    have e72 : g2 137 = g 137 := by rw [f2 137 (by decide) (by decide)]; exact e7
    have hX2 : RXt dd sh g2 (kpA (nit (g 137) n m a y j).1) (g2 137) := by
      rw [e72]
      exact hX.fr (by rw [kpA_lo (by decide) (by decide)]; exact z2) fun q hq => by rw [f2 q (by omega) (by omega)]; exact f q (by omega) (by omega) (by omega) (by omega) (by omega) (by omega)
    refine s_X5_giveNight hH2 hX2 k0 k1 hS2 NF.rf (by omega) fun g3 f3 hS3 _ => ?_
    rw [e72] at hS3 ⊢
    have hsh := paS_Sh (w := true) (T := g 137) (n := n) (m := m) (x := (nit (g 137) n m a y j).2.1) (s := (kpA (nit (g 137) n m a y j).1, (nit (g 137) n m a y j).2)) (s' := (kpA (nit (g 137) n m a y j).1, 0, 0)) ⟨rfl, (Int.add_zero _).symm⟩
    rw [← hsh.1] at hS3
    rw [← hsh.2]
    have hA3 := hS3.ab
    have hcnt := gA_cnt true (g 137) (n := n) (m := m) (kpA (nit (g 137) n m a y j).1, (nit (g 137) n m a y j).2) (by omega) (by omega) hS2.ab k0 k1
    have hH3 : RHc g3 (nit (g 137) n m a y (j + 1)).1 := by
      rw [hsucc]
      refine RHc.fr hH2 (fun q hq => f3 q (by omega) (by omega) (by omega) (by omega)) (fun k hk => ?_) ?_ ?_
      · exact paS_off (by omega) (by omega) (by omega) (fun p hp => by omega) (fun c hc => by omega)
      · rw [paS_off (by omega) (by omega) (by omega) (fun p hp => by omega) (fun c hc => by omega)]; exact Int.le_refl _
      · rw [paS_off (by omega) (by omega) (by omega) (fun p hp => by omega) (fun c hc => by omega)]; exact Int.le_refl _
    refine ih g3 (fun q h1 h2 h3 h4 h5 h6 => ?_) hS3 hH3 fun i hi => ?_
    · rw [f3 q h2 h3 h4 h6, f2 q h1 h5]; exact f q h1 h2 h3 h4 h5 h6
    · by_cases hij : i = j + 1
      · subst hij
        have c2 : 0 ≤ (nit (g 137) n m a y j).2.1 ∧ (nit (g 137) n m a y j).2.1 ≤ 84 * j := hNIj.2.2
        have c3 : (nit (g 137) n m a y j).2.1 ≤ (nit (g 137) n m a y (j + 1)).2.1 ∧ (nit (g 137) n m a y (j + 1)).2.1 ≤ (nit (g 137) n m a y j).2.1 + 84 := hcnt
        exact ⟨hA3, hH3.st.2, by omega, by omega⟩
      · exact hNI i (by omega)
  · have e : i = 0 := by omega
    subst e
    exact ⟨hS.ab, hH.st.2, by show (0 : Int) ≤ 0; decide, by show (0 : Int) ≤ 84 * ((0 : Nat) : Int); decide⟩
theorem s_X12_arePassed {d : Nat} {dd : List (Nat × Nat)} {sh : Nat → Nat → Nat} {g : Nat → Nat → Int} {K : Int → (Nat → Nat → Int) → Prop} {g1 : Nat → Nat → Int} {a : Nat → Int} {n m N : Nat} {y : Int} (hX : RXt dd sh g1 a (g1 137)) (ht : -1 ≤ a 3 ∧ a 3 < a 2) (h2 : 0 ≤ a 2 ∧ a 2 ≤ 4) (hn : a 0 = n) (hm : a 1 = m) (hn6 : n ≤ 6) (hm7 : m ≤ 7) (hNN : N ≤ 9999) (h10 : 0 ≤ a 10) (hN : a 10 + N ≤ 9999) (hNI : ∀ i, i ≤ N → NI (g1 137) n m a y i) (h : PR g1 g (a, 0, y)) (hw : g1 134 22 = 1)
    (hK : ∀ g', PR g1 g' (nit (g1 137) n m a y N) → K 1 g') : cI (d + 9) m_X12_arePassed [(vR 134), (vI ((N : Int)))] dd sh g K := by
  refine mkI (ls := [some (vR 134), some (vI ((N : Int))), none]) rfl rfl rfl rfl rfl (r_X12_arePassed_0 ?_)
  refine loop (P := fun j => ∀ g', PR g1 g' (nit (g1 137) n m a y j) → rI (d + 8) m_X12_arePassed 2 [some (vR 134), some (vI ((N : Int))), some (vI ((j : Int)))] [] dd sh (g') K) (n := N) ?_ ?_ 0 (by omega) g h
  · intro g' hp
    exact r_X12_arePassed_2 ⟨⟨by omega, by omega⟩, ⟨by omega, by omega⟩, fun _ => hK g' hp, fun h => absurd h (by omega)⟩
  · intro j hj ih g' hp
    obtain ⟨hAj, h4j, hcj⟩ := hNI j (by omega)
    obtain ⟨k4, hk4⟩ := Int.eq_ofNat_of_zero_le h4j.1
    have e5 : g' 135 = (nit (g1 137) n m a y j).1 := hp.2.2.1
    have z10 := nit_10 (T := g1 137) (n := n) (m := m) (a := a) (y := y) j
    have zz : ∀ k, k < 4 → (nit (g1 137) n m a y j).1 k = a k := fun k hk => nit_lo hn6 hm7 (by omega) (by omega) (fun p hp => by omega) (fun c hc => by omega) j
    have kk : ∀ k, k < 4 → kpA (nit (g1 137) n m a y j).1 k = a k := fun k hk => by rw [kpA_lo (by omega) (by omega)]; exact zz k hk
    refine r_X12_arePassed_2 ?_
    rw [e5, z10]
    refine ⟨⟨by omega, by omega⟩, ⟨by omega, by omega⟩, fun h => absurd h (by omega), fun _ => ⟨⟨by omega, by omega⟩, fun _ => ?_, fun h => absurd h (by omega)⟩⟩
    refine s_X12_keepX (n := k4) (by rw [e5]; exact hk4) (by omega) fun g2 f2 hb hx => ?_
    rw [e5] at hb hx
    have er : g2 135 = kpA (nit (g1 137) n m a y j).1 := keepB_kpA hk4 (by omega) hb hx
    have hp2 : PR g1 g2 (kpA (nit (g1 137) n m a y j).1, (nit (g1 137) n m a y j).2) := ⟨fun q q1 q2 q3 q4 => by rw [f2 q q2]; exact hp.1 q q1 q2 q3 q4, fun k k1 k2 => by rw [f2 134 (by decide)]; exact hp.2.1 k k1 k2, er, by rw [f2 134 (by decide)]; exact hp.2.2.2.1, by rw [f2 134 (by decide)]; exact hp.2.2.2.2⟩
    refine s_X12_pass (a0 := kpA (nit (g1 137) n m a y j).1) (w := true) (n := n) (m := m) (hX.fr (kk 2 (by decide)) fun _ _ => rfl) (by rw [kk 3 (by decide), kk 2 (by decide)]; exact ht) (by rw [kk 2 (by decide)]; exact h2) (by rw [kk 0 (by decide)]; exact hn) (by rw [kk 1 (by decide)]; exact hm) (fun _ _ _ _ => rfl) (kpA_AB hAj) hp2 (by rw [hw]; rfl) fun g3 h3 => ih g3 h3
theorem Inv.nights {dd : List (Nat × Nat)} {sh : Nat → Nat → Nat} {g g1 g3 : Nat → Nat → Int} {b : Nat → Int} (hI : Inv dd sh g) (f : HN g g1) (hS : RSc g1 b) (hH : RHc g1 b) (lo : ∀ k, k < 4 ∨ (5 ≤ k ∧ k < 10) ∨ (86 ≤ k ∧ k < 184) → b k = g 135 k) (lw : ∀ p : Nat, p < 6 → b (22 + 7 * p) = g 135 (22 + 7 * p)) (e : g3 135 = b) (r1 : ∀ q, q ≠ 134 → q ≠ 135 → q ≠ 140 → q ≠ 141 → g3 q = g1 q) (r2 : ∀ k, k ≠ 23 → k ≠ 24 → g3 134 k = g1 134 k) : Inv dd sh g3 := by
  refine hI.step (g1 := g1) (fun q hq => f q (by omega) (by omega) (by omega) (by omega) (by omega) (by omega)) ⟨fun q hq => r1 q (by omega) (by omega) (by omega) (by omega), fun k hk => r2 k (by omega) (by omega)⟩ (by rw [e]; exact hS) ?_ (by rw [e]; exact hH) (by rw [e]; exact lo 2 (by omega))
  rw [e]
  have := RN.fr hI.nn (b := b) (fun k hk => lo k (by omega)) lw
  have fr : ∀ q, 12 ≤ q ∧ q ≤ 19 → g1 q = g q := fun q hq => f q (by omega) (by omega) (by omega) (by omega) (by omega) (by omega)
  unfold RNc
  rw [fr 12 (by decide), fr 13 (by decide), fr 14 (by decide), fr 16 (by decide), fr 17 (by decide), fr 18 (by decide), fr 19 (by decide)]
  exact this
theorem sim_night : S_night := by
  intro dd sh g hI a1 h1
  have hA := hI.s.ab
  have en := hA.n
  have em := hA.m
  have hnt := hI.s.night
  have hru := hI.h.ru
  have htx := hI.h.tx
  obtain ⟨n, hn⟩ := Int.eq_ofNat_of_zero_le en.1
  obtain ⟨m, hm⟩ := Int.eq_ofNat_of_zero_le em.1
  have h22 : g 134 22 = 1 := hI.x.2.2.2.2
  have bad : ¬ ((1 ≤ a1 ∧ a1 ≤ 60) ∧ g 135 10 + a1 ≤ 9999) → cI 200 m_X12_night [vR 134, vI a1] dd sh g (fun r' g3 => (-1 : Int) = r' ∧ i32 (-1) ∧ Inv dd sh g3) := by
    intro c
    refine mkI (ls := [some (vR 134), some (vI a1)]) rfl rfl rfl rfl rfl (r_X12_night_0 ?_)
    refine s_X12_isIn h1 ⟨by decide, by decide⟩ ⟨by decide, by decide⟩ (fun _ _ => ⟨⟨by decide, by decide⟩, fun h => absurd h (by decide), fun _ => ⟨⟨by omega, by omega⟩, fun h => absurd ⟨⟨by assumption, by assumption⟩, h⟩ c, fun _ => ⟨rfl, ⟨by decide, by decide⟩, hI⟩⟩⟩) (fun _ => ⟨⟨by decide, by decide⟩, fun _ => ⟨rfl, ⟨by decide, by decide⟩, hI⟩, fun h => absurd rfl h⟩)
  unfold SimI
  refine mkI (ls := [some (vR 1), some (vI a1)]) rfl rfl rfl rfl rfl (r_X11_night_0 ?_)
  refine ⟨h1, fun h => bad (by omega), fun hh1 => ⟨fun h => bad (by omega), fun hh2 => ⟨⟨by omega, by omega⟩, fun hh3 => ?_, fun h => bad (by omega)⟩⟩⟩
  obtain ⟨N, rfl⟩ := Int.eq_ofNat_of_zero_le (show 0 ≤ a1 by omega)
  refine s_X5_nightsByHand (y := g 134 24) hI.s hI.h hI.xt hn hm (by omega) fun g1 f hS1 hH1 hNI => ?_
  have e5 : g1 135 = g 135 := f 135 (by decide) (by decide) (by decide) (by decide) (by decide) (by decide)
  have e7 : g1 137 = g 137 := f 137 (by decide) (by decide) (by decide) (by decide) (by decide) (by decide)
  have e4 : g1 134 = g 134 := f 134 (by decide) (by decide) (by decide) (by decide) (by decide) (by decide)
  have hNN := hNI N (Nat.le_refl _)
  refine mkI (ls := [some (vR 134), some (vI ((N : Int)))]) rfl rfl rfl rfl rfl (r_X12_night_0 ?_)
  refine s_X12_isIn h1 ⟨by decide, by decide⟩ ⟨by decide, by decide⟩ (fun _ _ => ⟨⟨by decide, by decide⟩, fun h => absurd h (by decide), fun _ => ?_⟩) (fun h => absurd h (by omega))
  rw [e5]
  refine ⟨⟨by omega, by omega⟩, fun _ => ?_, fun h => absurd h (by omega)⟩
  have hp : PR g1 (up g1 134 23 0) (g 135, 0, g 134 24) := ⟨fun q q1 _ _ _ => up_off q1, fun k k1 _ => by rw [up_at, if_neg k1], by rw [up_off (by decide)]; exact e5, by rw [up_at, if_pos rfl], by rw [up_at, if_neg (by decide), e4]⟩
  rw [← e7] at hNI hS1 hH1 hNN ⊢
  obtain ⟨_, _, hc1, hc2⟩ := hNN
  refine s_X12_arePassed (g1 := g1) (a := g 135) (n := n) (m := m) (y := g 134 24) (by rw [e7]; exact hI.xt.fr rfl fun q hq => f q (by omega) (by omega) (by omega) (by omega) (by omega) (by omega)) hru.2 htx.2 hn hm (by omega) (by omega) (by omega) (by omega) (by omega) hNI hp (by rw [e4]; exact h22) fun g3 h3 => ?_
  refine ⟨⟨by decide, by decide⟩, fun h => absurd h (by decide), fun _ => ⟨h3.2.2.2.1.symm, ⟨by omega, by omega⟩, ?_⟩⟩
  exact hI.nights f hS1 hH1 (fun k hk => nit_lo (by omega) (by omega) (by omega) (by omega) (fun p hp => by omega) (fun c hc => by omega) N) (fun p hp => nit_lo (by omega) (by omega) (by omega) (by omega) (fun p hp => by omega) (fun c hc => by omega) N) h3.2.2.1 h3.1 h3.2.1
