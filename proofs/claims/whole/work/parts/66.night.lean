-- a night of the class
theorem s_paidA {d : Nat} {dd : List (Nat × Nat)} {sh : Nat → Nat → Nat} {g : Nat → Nat → Int} {K : Int → (Nat → Nat → Int) → Prop} {a : Nat → Int} {n : Nat} (hS : RSc g a) (hH : RHc g a) (hX : RXt dd sh g a (g 137)) (hn : a 0 = n) (hK : ∀ g', LF1 g g' → K (sm (paF a (g 137)) n) g') : cI (d + 5) m_X2_paidByAll [(vR 115)] dd sh g K := by
  have en := hS.n
  refine mkI (ls := [some (vR 115), none, none, none]) rfl rfl rfl rfl rfl (r_X2_paidByAll_0 ?_)
  refine loop (P := fun k => ∀ g', LF1 g g' → rI (d + 4) m_X2_paidByAll 12 [some (vR 115), some (vR 3), some (vI (sm (paF a (g 137)) k)), some (vI ((k : Int)))] [] dd sh (g') K) (n := n) ?_ ?_ 0 (by omega) g (fun _ _ _ => rfl)
  · intro g' hs'
    refine r_X2_paidByAll_12 ?_
    rw [hs' 3 (by decide) (by decide)]
    exact ⟨⟨by omega, by omega⟩, ⟨by omega, by omega⟩, fun _ => hK g' hs', fun h => absurd h (by omega)⟩
  · intro k hk ih g' hs'
    have e7 := hs' 137 (by decide) (by decide)
    refine r_X2_paidByAll_12 ?_
    rw [hs' 3 (by decide) (by decide)]
    refine ⟨⟨by omega, by omega⟩, ⟨by omega, by omega⟩, fun h => absurd h (by omega), fun _ => ?_⟩
    refine s_X7_comes (hs'.scr.s hS) (p := k) (by omega) (by omega) fun r er r0 r1 => ⟨⟨by omega, by omega⟩, fun h0 => ?_, fun h0 => ?_⟩
    · have := ih g' hs'
      have e : sm (paF a (g 137)) (k + 1) = sm (paF a (g 137)) k := by
        show sm _ k + paF a (g 137) k = _
        unfold paF
        rw [if_neg (by omega)]; omega
      rw [e] at this
      exact this
    · refine s_X2_paysNow (hs'.scr.s hS) (hs'.scr.h hH) (by rw [e7]; exact hX.fr rfl fun q hq => hs' q (by omega) (by omega)) (by omega) (by omega) fun g'' f'' => ?_
      rw [e7]
      have := ih g'' (fun q h1 h2 => by rw [f'' q h1 h2, hs' q h1 h2])
      have e : sm (paF a (g 137)) (k + 1) = sm (paF a (g 137)) k + paysA a (g 137) k := by
        show sm _ k + paF a (g 137) k = _
        rw [show paF a (g 137) k = paysA a (g 137) k by unfold paF; rw [if_pos (by omega)]]
      rw [e] at this
      exact this
theorem s_X7_take {d : Nat} {dd : List (Nat × Nat)} {sh : Nat → Nat → Nat} {g : Nat → Nat → Int} {K : (Nat → Nat → Int) → Prop} {v1 : Int} {a : Nat → Int} (hS : RSc g a) (hv : 0 ≤ v1 ∧ v1 ≤ 100000) (hK : K (up g 3 13 (min (a 11 + v1) 99999999))) : cV (d + 2) m_X7_take [(vR 3), (vI v1)] dd sh g K := by
  have ht := hS.tak
  refine mkV (ls := [some (vR 3), some (vI v1)]) rfl rfl rfl rfl rfl (r_X7_take_0 ?_)
  refine s_X11_within ⟨by omega, by omega⟩ ⟨by decide, by decide⟩ ⟨by decide, by decide⟩ (by decide) fun r er => ?_
  rw [show r = min (a 11 + v1) 99999999 by omega]
  exact hK
theorem hbA_off {a : Nat → Int} {k : Nat} : ∀ n, (∀ p, p < n → k ≠ 19 + 7 * p) → hbA a n k = a k := by
  intro n
  induction n with
  | zero => intro _; rfl
  | succ n ih =>
    intro h
    show (if hbA a n (20 + 7 * n) = 1 then upR (hbA a n) (19 + 7 * n) (min (max (hbA a n (19 + 7 * n) + 1) 0) 9) else hbA a n) k = a k
    split
    · rw [upR_off (h n (by omega))]; exact ih fun p hp => h p (by omega)
    · exact ih fun p hp => h p (by omega)
theorem ecA_off {a : Nat → Int} {k : Nat} : ∀ n, (∀ c, c < n → k ≠ 61 + 4 * c) → ecA a n k = a k := by
  intro n
  induction n with
  | zero => intro _; rfl
  | succ n ih =>
    intro h
    show upR (ecA a n) (61 + 4 * n) 0 k = a k
    rw [upR_off (h n (by omega))]; exact ih fun p hp => h p (by omega)
theorem ecA_at {a : Nat → Int} {c : Nat} : ∀ n, c < n → ecA a n (61 + 4 * c) = 0 := by
  intro n
  induction n with
  | zero => intro h; omega
  | succ n ih =>
    intro h
    show upR (ecA a n) (61 + 4 * n) 0 (61 + 4 * c) = 0
    by_cases hc : c = n
    · subst hc; exact upR_at _ _ _
    · rw [upR_off (by omega)]; exact ih (by omega)
theorem s_X5_giveNight {d : Nat} {dd : List (Nat × Nat)} {sh : Nat → Nat → Nat} {g : Nat → Nat → Int} {K : Int → (Nat → Nat → Int) → Prop} {g0 : Nat → Nat → Int} {a0 : Nat → Int} {n m : Nat} (hH : RHc g0 a0) (hX : RXt dd sh g0 a0 (g0 137)) (hn : a0 0 = n) (hm : a0 1 = m) (hS : RSc g a0) (f : NF g0 g) (h10 : a0 10 < 9999)
    (hK : ∀ g', NF g0 g' → RSc g' (paS true (g0 137) n m (a0, 0, 0)).1 → g' 118 5 = (paS true (g0 137) n m (a0, 0, 0)).2.2 → K (paS true (g0 137) n m (a0, 0, 0)).2.1 g') : cI (d + 6) m_X5_giveNight [(vR 118)] dd sh g K := by
  have en := hS.n
  have em := hS.m
  have hb0 : BK a0 a0 := fun _ _ _ _ => rfl
  refine mkI (ls := [some (vR 118), none, none]) rfl rfl rfl rfl rfl (r_X5_giveNight_0 ?_)
  have ph1 : ∀ g', NF g0 g' → RSc g' (foldN (gT true (g0 137) n) (a0, 0, 0) m).1 → g' 118 5 = (foldN (gT true (g0 137) n) (a0, 0, 0) m).2.2 → rI (d + 5) m_X5_giveNight 9 [some (vR 118), some (vI ((foldN (gT true (g0 137) n) (a0, 0, 0) m).2.1)), some (vI ((m : Int)))] [] dd sh (g') K := by
    intro g' fg hSg hbg
    have hbm : BK a0 (foldN (gT true (g0 137) n) (a0, 0, 0) m).1 := gA_BK hb0 m
    have hK' := hK
    unfold paS gA at hK'
    generalize foldN (gT true (g0 137) n) (a0, 0, 0) m = s at hSg hbg hbm hK' ⊢
    have s0 : s.1 0 = n := by rw [hbm 0 (by decide) (by decide) (by decide)]; exact hn
    have s1 : s.1 1 = m := by rw [hbm 1 (by decide) (by decide) (by decide)]; exact hm
    have hHs : RHc g' s.1 := RHc.fr hH (fun q hq => fg q (by omega) (by omega) (by omega) (by omega)) (fun k hk => hbm k (by omega) (by omega) (by omega)) (by omega) (by omega)
    have e7 : g' 137 = g0 137 := fg 137 (by decide) (by decide) (by decide) (by decide)
    have hXs : RXt dd sh g' s.1 (g' 137) := by rw [e7]; exact hX.fr (hbm 2 (by decide) (by decide) (by decide)) fun q hq => fg q (by omega) (by omega) (by omega) (by omega)
    have hA := hSg.ab
    have hsm := sm_bound (f := paF s.1 (g0 137)) (n := n) (B := 999) fun p hp => paF_b hA _ (by omega) (by omega)
    have htk := hA.tak
    refine r_X5_giveNight_9 ?_
    rw [hSg.m.1, s1]
    refine ⟨⟨by omega, by omega⟩, ⟨by omega, by omega⟩, fun _ => ?_, fun h => absurd h (by omega)⟩
    refine s_paidA hSg hHs hXs s0 fun g2 f2 => ?_
    rw [e7]
    have hS2 := f2.scr.s hSg
    refine s_X7_take hS2 (by omega) ?_
    have hS3 : RSc (up g2 3 13 (min (s.1 11 + sm (paF s.1 (g0 137)) n) 99999999)) (tkA (g0 137) n s.1) := RS.take (s := g2 3) hS2 (by omega) (fun k hk => by rw [up_at, if_neg hk]) (by rw [up_at, if_pos rfl])
    have f3 : NF g0 (up g2 3 13 (min (s.1 11 + sm (paF s.1 (g0 137)) n) 99999999)) := fun q h1 h2 h3 h4 => by rw [up_off h1, f2 q (by omega) (by omega)]; exact fg q h1 h2 h3 h4
    have b3 : up g2 3 13 (min (s.1 11 + sm (paF s.1 (g0 137)) n) 99999999) 118 5 = s.2.2 := by rw [up_off (by decide), f2 118 (by decide) (by decide)]; exact hbg
    have tkl : ∀ k, k ≠ 11 → tkA (g0 137) n s.1 k = s.1 k := fun k hk => upR_off hk
    generalize tkA (g0 137) n s.1 = a3 at hS3 hK' tkl
    generalize up g2 3 13 (min (s.1 11 + sm (paF s.1 (g0 137)) n) 99999999) = g3 at hS3 f3 b3 ⊢
    have a30 : a3 0 = n := by rw [tkl 0 (by decide)]; exact s0
    have a31 : a3 1 = m := by rw [tkl 1 (by decide)]; exact s1
    have a310 : a3 10 = a0 10 := by rw [tkl 10 (by decide)]; exact hbm 10 (by decide) (by decide) (by decide)
    refine loop (P := fun k => ∀ g', NF g0 g' → RSc g' (hbA a3 k) → g' 118 5 = s.2.2 → rI (d + 5) m_X5_giveNight 58 [some (vR 118), some (vI (s.2.1)), some (vI ((k : Int)))] [] dd sh (g') K) (n := n) ?_ ?_ 0 (by omega) g3 f3 hS3 b3
    · intro g4 f4 hS4 b4
      have e0 : hbA a3 n 0 = n := by rw [hbA_off n (fun p hp => by omega)]; exact a30
      have e1 : hbA a3 n 1 = m := by rw [hbA_off n (fun p hp => by omega)]; exact a31
      have e10 : hbA a3 n 10 = a0 10 := by rw [hbA_off n (fun p hp => by omega)]; exact a310
      refine r_X5_giveNight_58 ?_
      rw [hS4.n.1, e0]
      refine ⟨⟨by omega, by omega⟩, ⟨by omega, by omega⟩, fun _ => ?_, fun h => absurd h (by omega)⟩
      refine hK' _ (fun q h1 h2 h3 h4 => by rw [up_off h1, up_off h1]; exact f4 q h1 h2 h3 h4) ?_ (by rw [up_off (by decide), up_off (by decide)]; exact b4)
      have e10' : ecA (hbA a3 n) m 10 = hbA a3 n 10 := ecA_off m (fun c _ => by omega)
      refine RS.fin (s := g4 3) (b := upR (ecA (hbA a3 n) m) 10 (ecA (hbA a3 n) m 10 + 1)) hS4 (by omega) (fun k h1 h2 => by rw [up_at, if_neg h2, up_at, if_neg h1]) (by rw [up_at, if_neg (by decide), up_at, if_pos rfl]) (by rw [up_at, if_pos rfl]) (by rw [upR_at, e10']) (fun c hc hca => ?_) (fun k h1 h2 => ?_)
      · rw [upR_off (by omega)]; exact ecA_at m (by omega)
      · rw [upR_off h1]; exact ecA_off m (fun c hc => h2 c (by omega) (by omega))
    · intro k hk ih g4 f4 hS4 b4
      have e0 : hbA a3 k 0 = n := by rw [hbA_off k (fun p hp => by omega)]; exact a30
      have hpk := hS4.pp k (by omega) (by omega)
      have hpb := hS4.pb k (by omega)
      have hst : hbA a3 (k + 1) = if hbA a3 k (20 + 7 * k) = 1 then upR (hbA a3 k) (19 + 7 * k) (min (max (hbA a3 k (19 + 7 * k) + 1) 0) 9) else hbA a3 k := rfl
      refine r_X5_giveNight_58 ?_
      rw [hS4.n.1, e0]
      refine ⟨⟨by omega, by omega⟩, ⟨by omega, by omega⟩, fun h => absurd h (by omega), fun _ => ?_⟩
      refine s_X7_comes hS4 (p := k) (by omega) (by omega) fun r er r0 r1 => ⟨⟨by omega, by omega⟩, fun h => ?_, fun h => ⟨by omega, by omega, ?_⟩⟩
      · rw [hst, if_neg (by omega)] at ih
        exact ih g4 f4 hS4 b4
      · rw [hst, if_pos (by omega)] at ih
        rw [show ((k : Int)).toNat = k from rfl, hpk.2.2.2.1]
        refine s_X11_within ⟨by omega, by omega⟩ ⟨by decide, by decide⟩ ⟨by decide, by decide⟩ (by decide) fun r2 er2 => ?_
        rw [er2]
        refine ih _ (fun q h1 h2 h3 h4 => by rw [up_off h2]; exact f4 q h1 h2 h3 h4) ?_ (by rw [up_off (by decide)]; exact b4)
        exact RS.habit (ha := g4 7) hS4 (by omega) (by omega) (by omega) (fun j hj => by rw [up_at, if_neg hj]) (by rw [up_at, if_pos rfl])
  refine loop (P := fun k => ∀ g', NF g0 g' → RSc g' (foldN (gT true (g0 137) n) (a0, 0, 0) k).1 → g' 118 5 = (foldN (gT true (g0 137) n) (a0, 0, 0) k).2.2 → rI (d + 5) m_X5_giveNight 9 [some (vR 118), some (vI ((foldN (gT true (g0 137) n) (a0, 0, 0) k).2.1)), some (vI ((k : Int)))] [] dd sh (g') K) (n := m) ph1 ?_ 0 (by omega) (up g 118 5 0) (fun q h1 h2 h3 h4 => by rw [up_off (by omega)]; exact f q h1 h2 h3 h4) (rsR hS fun q h1 h2 => up_off (by omega)) (by rw [up_at, if_pos rfl]; rfl)
  intro k hk ih g' fg hSg hbg
  have hbk : BK a0 (foldN (gT true (g0 137) n) (a0, 0, 0) k).1 := gA_BK hb0 k
  have hst : foldN (gT true (g0 137) n) (a0, 0, 0) (k + 1) = foldN (fun s _ => gS true (g0 137) n k s) (foldN (gT true (g0 137) n) (a0, 0, 0) k) (tgA (foldN (gT true (g0 137) n) (a0, 0, 0) k).1 k) := rfl
  rw [hst] at ih
  generalize foldN (gT true (g0 137) n) (a0, 0, 0) k = s at ih hSg hbg hbk ⊢
  have s1 : s.1 1 = m := by rw [hbk 1 (by decide) (by decide) (by decide)]; exact hm
  refine r_X5_giveNight_9 ?_
  rw [hSg.m.1, s1]
  refine ⟨⟨by omega, by omega⟩, ⟨by omega, by omega⟩, fun h => absurd h (by omega), fun _ => ?_⟩
  refine s_X7_timesGiven hSg (c := k) (by omega) (by omega) fun r r0 r2 rc rn => ?_
  have hcc := hSg.ab.cc k (by omega) (by omega)
  have hr : r = (tgA s.1 k : Nat) := by
    unfold tgA
    split
    · have := rn (by assumption); omega
    · have := rc (by omega); omega
  rw [hr]
  refine s_X5_giveScene hH hX hn (by omega) (by omega) (by omega) fg hbk hSg hbg fun g2 f2 hS2 hb2 => ?_
  have e9 : ∀ X : Int, s.2.1 + (X - s.2.1) = X := fun X => by omega
  rw [e9]
  exact ih g2 f2 hS2 hb2
