-- pay, and odds in their places
theorem s_X2_paysNow {d : Nat} {dd : List (Nat × Nat)} {sh : Nat → Nat → Nat} {g : Nat → Nat → Int} {K : Int → (Nat → Nat → Int) → Prop} {p : Nat} {a : Nat → Int} (hS : RSc g a) (hH : RHc g a) (hX : RXt dd sh g a (g 137)) (hp : p < 6) (hpa : (p : Int) < a 0) (hK : ∀ g', LF1 g g' → K (paysA a (g 137) p) g') : cI (d + 4) m_X2_paysNow [(vR 115), (vI (p : Int))] dd sh g K := by
  have hA := hS.ab
  have hr := hH.ru
  have htx := hH.tx
  have h1 := hS.pp p hp hpa
  have h2 := hA.pp p hp hpa
  have htd := td10 (show 0 ≤ a (18 + 7 * p) by omega)
  have hnm := nmA_b5 hA 0 hp hpa
  have hwo : i32 (g 5 p) ∧ 10 - (g 5 p).tdiv 10 = 10 - (a (18 + 7 * p)).tdiv 10 := by rw [h1.2.2.1]; exact ⟨⟨by omega, by omega⟩, rfl⟩
  refine mkI (ls := [some (vR 115), some (vI ((p : Int))), none, none]) rfl rfl rfl rfl rfl (r_X2_paysNow_0 ?_)
  refine s_X7_hasSuspect hS ⟨by omega, by omega⟩ (fun _ _ => ⟨⟨by decide, by decide⟩, fun _ => ?_, fun h => absurd h (by decide)⟩) (fun h => absurd h (by omega))
  rw [hr.1, show ((p : Int)).toNat = p from rfl]
  refine s_X1_textOf hH ⟨by omega, by omega⟩ (fun h => ?_) (fun h => ?_)
  · have hT := hX (a 3).toNat (by omega) (by omega)
    obtain ⟨t, et⟩ : ∃ n : Nat, a 3 = n := ⟨(a 3).toNat, by omega⟩
    unfold paysA at hK
    rw [et] at hT hK ⊢
    rw [show ((t : Int)).toNat = t from rfl] at hT ⊢
    obtain ⟨j, n, c', h1', h2', h3, h4', h5, h6, h7, h8⟩ := hT
    obtain ⟨y0, y1, y2, y3, _⟩ := T_at7 h1'
    rw [h2'] at h5 h7 h8 ⊢
    refine ⟨fun h => absurd h (by omega), fun _ => ⟨by omega, y0, ?_⟩⟩
    rcases (h8 2 (by decide)).ca h6 with ⟨l1, l2, l3, l4⟩ | ⟨k, lo, hi, l1, l2, l3, l4, l5, l6, l7, l8, l9, l10, l11, l12⟩
    · rw [l4, ← hwo.2] at hK
      refine s_X9_hasLaw (w := 2) h1' (by decide) ⟨by omega, by omega⟩ ⟨by omega, by omega⟩ (fun h => absurd h (by omega)) (fun _ => ⟨⟨by decide, by decide⟩, fun _ => ⟨by omega, by omega, hwo.1, hK g (fun _ _ _ => rfl)⟩, fun h => absurd rfl h⟩)
    · rw [l12] at hK
      refine s_X9_hasLaw (w := 2) h1' (by decide) ⟨by omega, by omega⟩ ⟨by omega, by omega⟩ (fun _ => ⟨⟨by decide, by decide⟩, fun h => absurd h (by decide), fun _ => ?_⟩) (fun h => absurd h (by omega))
      refine s_X2_nameSuspect (c := 0) hS hp hpa fun g1 f1 hg1 => ?_
      have hb := evX_b (nm := nmA a p 0) l11 (by omega) (fun j _ hj2 => hnm j (hj2 rfl))
      refine s_X2_run (w := 2) (lo := lo) (hi := hi) (pays := ((2 : Nat) == 2)) (nm := nmA a p 0) h1' h4' (by decide) ?_ ?_ l9 l8 (fun i hi1 hi2 => ?_) l11 (fun j _ hj2 => hnm j (hj2 rfl)) (fun j _ hj2 => hg1 j (hj2 rfl)) fun g2 f2 => ?_
      · rw [f1 _ (by omega) (by omega)]; exact l4
      · rw [f1 _ (by omega) (by omega)]; exact l5
      · rw [f1 _ (by omega) (by omega)]; exact l10 i hi1 hi2
      · refine s_X11_within ⟨by omega, by omega⟩ ⟨by decide, by decide⟩ ⟨by decide, by decide⟩ (by decide) fun r er => ?_
        rw [er]
        exact hK g2 (fun q h6' h7' => by rw [f2 q h6' h7', f1 q h6' h7'])
  · have e : paysA a (g 137) p = 10 - (g 5 p).tdiv 10 := by unfold paysA lawV; rw [if_pos (by omega), hwo.2]
    rw [e] at hK
    exact ⟨fun _ => ⟨by omega, by omega, hwo.1, hK g (fun _ _ _ => rfl)⟩, fun h => absurd rfl h⟩
theorem s_X12_paysOf {d : Nat} {dd : List (Nat × Nat)} {sh : Nat → Nat → Nat} {g : Nat → Nat → Int} {K : Int → (Nat → Nat → Int) → Prop} {p : Nat} (hA : AB (g 135)) (ht : g 135 3 < 0 ∨ (0 ≤ g 135 3 ∧ g 135 3 < 4 ∧ ∃ q, TextOk dd q g (g 137) (g 135 3).toNat)) (hti : i32 (g 135 3)) (hp : p < 6) (hpa : (p : Int) < g 135 0) (hK : ∀ g', RF1 g g' → K (paysA (g 135) (g 137) p) g') : cI (d + 5) m_X12_paysOf [(vR 134), (vI (p : Int))] dd sh g K := by
  have hnm := nmA_b5 hA 0 hp hpa
  refine mkI (ls := [some (vR 134), some (vI ((p : Int)))]) rfl rfl rfl rfl rfl (r_X12_paysOf_0 ?_)
  refine s_X12_name (c := 0) hA hp hpa fun g1 f1 hg1 => ?_
  have e135 : g1 135 = g 135 := f1 135 (by decide) (by decide)
  have e137 : g1 137 = g 137 := f1 137 (by decide) (by decide)
  have e3 : g1 140 3 = (g 135 (18 + 7 * p)).tdiv 10 := hg1 3 (by decide)
  rw [e135, e3]
  refine s_X12_says (w := 2) (nm := nmA (g 135) p 0) ?_ hti (by decide) (by decide) ⟨by decide, by decide⟩ (fun j _ hj2 => hnm j (hj2 rfl)) (fun j _ hj2 => hg1 j (hj2 rfl)) fun g' f' => ?_
  · rcases ht with h | ⟨h1, h2, q, hq⟩
    · exact Or.inl h
    · refine Or.inr ⟨h1, h2, q, ?_⟩
      rw [e137]
      exact hq.fr fun q hq => f1 q (by omega) (by omega)
  · rw [e137]
    exact hK g' (fun q h6 h7 => by rw [f' q h6 h7, f1 q h6 h7])
/-- what a reference's call leaves for the law -/
def RE (g0 g : Nat → Nat → Int) : Prop := g 135 = g0 135 ∧ g 137 = g0 137 ∧ ∀ q, 149 ≤ q → g q = g0 q
theorem RE.rf {g : Nat → Nat → Int} : RE g g := ⟨rfl, rfl, fun _ _ => rfl⟩
theorem RE.of {g0 g1 g : Nat → Nat → Int} (c : ClScr g0 g1) (r : RefScr g1 g) : RE g0 g := ⟨by rw [r.1 135 (by omega), c 135 (by omega)], by rw [r.1 137 (by omega), c 137 (by omega)], fun q hq => by rw [r.1 q (by omega), c q (by omega)]⟩
theorem o_now {d : Nat} {dd : List (Nat × Nat)} {sh : Nat → Nat → Nat} {g : Nat → Nat → Int} {K : Int → (Nat → Nat → Int) → Prop} {g0 : Nat → Nat → Int} {p c : Nat} {gu : Int} (hI : Inv dd sh g0) (hs : ClScr g0 g) (hp : p < 6) (hpa : (p : Int) < g0 135 0) (hc : c < 7) (hca : (c : Int) < g0 135 1) (hgu : i32 gu) (hK : ∀ g', LF1 g g' → ClScr g0 g' → K (oddsA (g0 135) (g0 137) (g0 135 3) p c gu) g') : cI (d + 4) m_X2_oddsNow [(vR 115), (vI (p : Int)), (vI (c : Int)), (vI gu)] dd sh g K := by
  have e5 := hs 135 (by omega)
  have e7 := hs 137 (by omega)
  refine s_X2_oddsNow (by rw [e5]; exact hs.s hI.s) (by rw [e5]; exact hs.h hI.h) (by rw [e5, e7]; exact hI.xt.fr rfl fun q hq => hs q (by omega)) hp (by rw [e5]; exact hpa) hc (by rw [e5]; exact hca) hgu fun g' f' => ?_
  rw [e5, e7]
  exact hK g' f' (hs.tr f'.scr)
theorem o_by {d : Nat} {dd : List (Nat × Nat)} {sh : Nat → Nat → Nat} {g : Nat → Nat → Int} {K : Int → (Nat → Nat → Int) → Prop} {g0 : Nat → Nat → Int} {p c q : Nat} {gu t : Int} (hI : Inv dd sh g0) (hs : ClScr g0 g) (hp : p < 6) (hpa : (p : Int) < g0 135 0) (hc : c < 7) (hca : (c : Int) < g0 135 1) (hgu : i32 gu) (ht : TxAt dd g0 q t) (hK : ∀ g', LF1 g g' → ClScr g0 g' → K (oddsA (g0 135) (g0 137) t p c gu) g') : cI (d + 3) m_X2_oddsBy [(vR 115), (vR q), (vI (p : Int)), (vI (c : Int)), (vI gu)] dd sh g K := by
  have e7 := hs 137 (by omega)
  refine s_X2_oddsBy (t := t) (hs.s hI.s) hp hpa hc hca hgu ?_ fun g' f' => ?_
  · rcases ht with h | ⟨h1, h2, h3, h4⟩
    · exact Or.inl h
    · refine Or.inr ⟨h1, h2, h3, ?_⟩
      rw [e7]
      exact h4.fr fun q hq => hs q (by omega)
  · rw [e7]
    exact hK g' f' (hs.tr f'.scr)
theorem o_of {d : Nat} {dd : List (Nat × Nat)} {sh : Nat → Nat → Nat} {g : Nat → Nat → Int} {K : Int → (Nat → Nat → Int) → Prop} {g0 : Nat → Nat → Int} {p c : Nat} {gu t : Int} (hI : Inv dd sh g0) (hs : RE g0 g) (ht : t < 0 ∨ (0 ≤ t ∧ t < g0 135 2)) (hti : i32 t) (hp : p < 6) (hpa : (p : Int) < g0 135 0) (hc : c < 7) (hca : (c : Int) < g0 135 1) (hgu : i32 gu) (hK : ∀ g', RF1 g g' → K (oddsA (g0 135) (g0 137) t p c gu) g') : cI (d + 5) m_X12_oddsOf [(vR 134), (vI t), (vI (p : Int)), (vI (c : Int)), (vI gu)] dd sh g K := by
  obtain ⟨e5, e7, ex⟩ := hs
  have htx := hI.h.tx
  refine s_X12_oddsOf (by rw [e5]; exact hI.s.ab) ?_ hti hp (by rw [e5]; exact hpa) hc (by rw [e5]; exact hca) hgu fun g' f' => ?_
  · rcases ht with h | ⟨h1, h2⟩
    · exact Or.inl h
    · refine Or.inr ⟨h1, by omega, sh 51 t.toNat, ?_⟩
      rw [e7]
      exact (hI.xt t.toNat (by omega) (by omega)).fr ex
  · rw [e5, e7]
    exact hK g' f'
theorem p_now {d : Nat} {dd : List (Nat × Nat)} {sh : Nat → Nat → Nat} {g : Nat → Nat → Int} {K : Int → (Nat → Nat → Int) → Prop} {g0 : Nat → Nat → Int} {p : Nat} (hI : Inv dd sh g0) (hs : ClScr g0 g) (hp : p < 6) (hpa : (p : Int) < g0 135 0) (hK : ∀ g', LF1 g g' → ClScr g0 g' → K (paysA (g0 135) (g0 137) p) g') : cI (d + 4) m_X2_paysNow [(vR 115), (vI (p : Int))] dd sh g K := by
  have e5 := hs 135 (by omega)
  have e7 := hs 137 (by omega)
  refine s_X2_paysNow (hs.s hI.s) (hs.h hI.h) (by rw [e7]; exact hI.xt.fr rfl fun q hq => hs q (by omega)) hp hpa fun g' f' => ?_
  rw [e7]
  exact hK g' f' (hs.tr f'.scr)
theorem p_of {d : Nat} {dd : List (Nat × Nat)} {sh : Nat → Nat → Nat} {g : Nat → Nat → Int} {K : Int → (Nat → Nat → Int) → Prop} {g0 : Nat → Nat → Int} {p : Nat} (hI : Inv dd sh g0) (hs : RE g0 g) (hp : p < 6) (hpa : (p : Int) < g0 135 0) (hK : ∀ g', RF1 g g' → K (paysA (g0 135) (g0 137) p) g') : cI (d + 5) m_X12_paysOf [(vR 134), (vI (p : Int))] dd sh g K := by
  obtain ⟨e5, e7, ex⟩ := hs
  have htx := hI.h.tx
  have hr := hI.h.ru
  refine s_X12_paysOf (by rw [e5]; exact hI.s.ab) ?_ (by rw [e5]; exact ⟨by omega, by omega⟩) hp (by rw [e5]; exact hpa) fun g' f' => ?_
  · rw [e5, e7]
    by_cases h : g0 135 3 < 0
    · exact Or.inl h
    · refine Or.inr ⟨by omega, by omega, sh 51 (g0 135 3).toNat, ?_⟩
      exact (hI.xt (g0 135 3).toNat (by omega) (by omega)).fr ex
  · rw [e5, e7]
    exact hK g' f'
/-- what those who come pay -/
noncomputable def paF (a T : Nat → Int) (p : Nat) : Int := if a (20 + 7 * p) = 1 then paysA a T p else 0
theorem paF_b {a : Nat → Int} (h : AB a) (T : Nat → Int) {p : Nat} (hp : p < 6) (hpa : (p : Int) < a 0) : 0 ≤ paF a T p ∧ paF a T p ≤ 999 := by
  unfold paF
  split
  · exact paysA_b h T hp hpa
  · omega
theorem s_X2_paidByAll {d : Nat} {dd : List (Nat × Nat)} {sh : Nat → Nat → Nat} {g : Nat → Nat → Int} {K : Int → (Nat → Nat → Int) → Prop} {g0 : Nat → Nat → Int} {n : Nat} (hI : Inv dd sh g0) (hs : ClScr g0 g) (hn : g0 135 0 = n) (hK : ∀ g', ClScr g0 g' → K (sm (paF (g0 135) (g0 137)) n) g') : cI (d + 5) m_X2_paidByAll [(vR 115)] dd sh g K := by
  have en := hI.s.n
  refine mkI (ls := [some (vR 115), none, none, none]) rfl rfl rfl rfl rfl (r_X2_paidByAll_0 ?_)
  refine loop (P := fun k => ∀ g', ClScr g0 g' → rI (d + 4) m_X2_paidByAll 12 [some (vR 115), some (vR 3), some (vI (sm (paF (g0 135) (g0 137)) k)), some (vI ((k : Int)))] [] dd sh (g') K) (n := n) ?_ ?_ 0 (by omega) g hs
  · intro g' hs'
    have e3 : g' 3 0 = n := by rw [hs' 3 (by omega), en.1, hn]
    refine r_X2_paidByAll_12 ?_
    rw [e3]
    exact ⟨⟨by omega, by omega⟩, ⟨by omega, by omega⟩, fun _ => hK g' hs', fun h => absurd h (by omega)⟩
  · intro k hk ih g' hs'
    have e3 : g' 3 0 = n := by rw [hs' 3 (by omega), en.1, hn]
    refine r_X2_paidByAll_12 ?_
    rw [e3]
    refine ⟨⟨by omega, by omega⟩, ⟨by omega, by omega⟩, fun h => absurd h (by omega), fun _ => ?_⟩
    refine s_X7_comes (hs'.s hI.s) (p := k) (by omega) (by omega) fun r er r0 r1 => ⟨⟨by omega, by omega⟩, fun h0 => ?_, fun h0 => ?_⟩
    · have := ih g' hs'
      have e : sm (paF (g0 135) (g0 137)) (k + 1) = sm (paF (g0 135) (g0 137)) k := by
        show sm _ k + paF (g0 135) (g0 137) k = _
        unfold paF
        rw [if_neg (by omega)]; omega
      rw [e] at this
      exact this
    · refine p_now hI hs' (by omega) (by omega) fun g'' f'' hs'' => ?_
      have := ih g'' hs''
      have e : sm (paF (g0 135) (g0 137)) (k + 1) = sm (paF (g0 135) (g0 137)) k + paysA (g0 135) (g0 137) k := by
        show sm _ k + paF (g0 135) (g0 137) k = _
        rw [show paF (g0 135) (g0 137) k = paysA (g0 135) (g0 137) k by unfold paF; rw [if_pos (by omega)]]
      rw [e] at this
      exact this
theorem sim_worth : S_worth := by
  intro dd sh g hI
  have hA := hI.s.ab
  have em := hA.n
  obtain ⟨n, hn⟩ := Int.eq_ofNat_of_zero_le em.1
  have hb := sm_bound (f := paF (g 135) (g 137)) (n := n) (B := 999) fun j hj => paF_b hA _ (by omega) (by omega)
  unfold SimI
  refine mkI (ls := [some (vR 1)]) rfl rfl rfl rfl rfl (r_X11_worth_0 ?_)
  refine s_X2_paidByAll hI ClScr.rf hn fun g1 hs => ?_
  refine mkI (ls := [some (vR 134), none, none]) rfl rfl rfl rfl rfl (r_X12_worth_0 ?_)
  refine loop (P := fun k => ∀ g', RefScr g1 g' → rI 199 m_X12_worth 4 [some (vR 134), some (vI (sm (paF (g 135) (g 137)) k)), some (vI ((k : Int)))] [] dd sh (g') (fun r' g3 => sm (paF (g 135) (g 137)) n = r' ∧ i32 (sm (paF (g 135) (g 137)) n) ∧ Inv dd sh g3)) (n := n) ?_ ?_ 0 (by omega) g1 RefScr.rf
  · intro g' hr
    have e5 := (RE.of hs hr).1
    refine r_X12_worth_4 ?_
    rw [e5, hn]
    exact ⟨⟨by omega, by omega⟩, ⟨by omega, by omega⟩, fun _ => ⟨rfl, ⟨by omega, by omega⟩, hI.scr hs hr⟩, fun h => absurd h (by omega)⟩
  · intro k hk ih g' hr
    have e5 := (RE.of hs hr).1
    have h1 := hA.pp k (by omega) (by omega)
    refine r_X12_worth_4 ?_
    rw [e5, hn]
    refine ⟨⟨by omega, by omega⟩, ⟨by omega, by omega⟩, fun h => absurd h (by omega), fun _ => ?_⟩
    refine s_get4 (by omega) ?_
    rw [e5]
    refine ⟨⟨by omega, by omega⟩, fun h0 => ?_, fun h0 => ?_⟩
    · have := ih g' hr
      have e : sm (paF (g 135) (g 137)) (k + 1) = sm (paF (g 135) (g 137)) k + 0 := by
        show sm _ k + paF (g 135) (g 137) k = _
        unfold paF
        rw [if_neg (by omega)]
      rw [e] at this
      exact this
    · refine p_of hI (RE.of hs hr) (by omega) (by omega) fun g'' f'' => ?_
      have := ih g'' (hr.tr f''.scr)
      have e : sm (paF (g 135) (g 137)) (k + 1) = sm (paF (g 135) (g 137)) k + paysA (g 135) (g 137) k := by
        show sm _ k + paF (g 135) (g 137) k = _
        rw [show paF (g 135) (g 137) k = paysA (g 135) (g 137) k by unfold paF; rw [if_pos (by omega)]]
      rw [e] at this
      exact this
theorem sim_odds : S_odds := by
  intro dd sh g hI a1 a2 a3 h1 h2 h3
  have hA := hI.s.ab
  have hn := hA.n
  have hm := hA.m
  have hr := hI.h.ru
  have htx := hI.h.tx
  unfold SimI
  by_cases c : (0 ≤ a1 ∧ a1 < g 135 0) ∧ 0 ≤ a2 ∧ a2 < g 135 1
  · obtain ⟨p, rfl⟩ := Int.eq_ofNat_of_zero_le c.1.1
    obtain ⟨q, rfl⟩ := Int.eq_ofNat_of_zero_le c.2.1
    have hb := oddsA_b (g 135) (g 137) (g 135 3) p q a3
    refine mkI (ls := [some (vR 1), some (vI ((p : Int))), some (vI ((q : Int))), some (vI a3)]) rfl rfl rfl rfl rfl (r_X11_odds_0 ?_)
    refine s_X7_hasBoth hI.s h1 h2 (fun _ _ _ _ => ⟨⟨by decide, by decide⟩, fun _ => ?_, fun h => absurd h (by decide)⟩) (fun h => absurd h (by omega))
    refine o_now hI ClScr.rf (by omega) (by omega) (by omega) (by omega) ⟨by omega, by omega⟩ fun g1 f1 hs => ?_
    have e5 := hs 135 (by omega)
    refine mkI (ls := [some (vR 134), some (vI ((p : Int))), some (vI ((q : Int))), some (vI a3)]) rfl rfl rfl rfl rfl (r_X12_odds_0 ?_)
    refine s_X12_isSuspect (by rw [e5]; exact hn) h1 (fun _ _ => ⟨⟨by decide, by decide⟩, fun h => absurd h (by decide), fun _ => ?_⟩) (fun h => absurd h (by rw [e5]; omega))
    refine s_X12_isScene (by rw [e5]; exact hm) h2 (fun _ _ => ⟨⟨by decide, by decide⟩, fun h => absurd h (by decide), fun _ => ?_⟩) (fun h => absurd h (by rw [e5]; omega))
    rw [e5]
    refine o_of hI (RE.of hs RefScr.rf) (by omega) ⟨by omega, by omega⟩ (by omega) (by omega) (by omega) (by omega) ⟨by omega, by omega⟩ fun g3 f3 => ⟨rfl, ⟨by omega, by omega⟩, hI.scr hs f3.scr⟩
  · refine mkI (ls := [some (vR 1), some (vI a1), some (vI a2), some (vI a3)]) rfl rfl rfl rfl rfl (r_X11_odds_0 ?_)
    refine s_X7_hasBoth hI.s h1 h2 (fun _ _ _ _ => absurd ⟨⟨by assumption, by assumption⟩, by assumption, by assumption⟩ c) (fun _ => ⟨⟨by decide, by decide⟩, fun h => absurd rfl h, fun _ => ?_⟩)
    refine mkI (ls := [some (vR 134), some (vI a1), some (vI a2), some (vI a3)]) rfl rfl rfl rfl rfl (r_X12_odds_0 ?_)
    refine s_X12_isSuspect hn h1 (fun _ _ => ⟨⟨by decide, by decide⟩, fun h => absurd h (by decide), fun _ => ?_⟩) (fun h => ⟨⟨by decide, by decide⟩, fun _ => ⟨rfl, ⟨by decide, by decide⟩, hI⟩, fun h => absurd rfl h⟩)
    exact s_X12_isScene hm h2 (fun _ _ => absurd ⟨⟨by assumption, by assumption⟩, by assumption, by assumption⟩ c) (fun h => ⟨⟨by decide, by decide⟩, fun _ => ⟨rfl, ⟨by decide, by decide⟩, hI⟩, fun h => absurd rfl h⟩)
theorem sim_ofSuspect : S_ofSuspect := by
  intro dd sh g hI a1 a2 h1 h2
  have hA := hI.s.ab
  have hn := hA.n
  unfold SimI
  by_cases c : 0 ≤ a1 ∧ a1 < g 135 0
  · obtain ⟨p, rfl⟩ := Int.eq_ofNat_of_zero_le c.1
    have hb := hA.pp p (by omega) c.2
    have hp := hI.s.pp p (by omega) c.2
    have fin : ∀ (x : Int), 0 ≤ a2 → a2 ≤ 4 → i32 x → (∀ d' K', K' x g → cI (d' + 1) m_X12_get [(vR 134), (vI (p : Int)), (vI a2)] dd sh g K') → cI 200 m_X12_ofSuspect [vR 134, vI (p : Int), vI a2] dd sh g (fun r' g3 => x = r' ∧ i32 x ∧ Inv dd sh g3) := by
      intro x h0 h4 hx hg
      refine mkI (ls := [some (vR 134), some (vI ((p : Int))), some (vI a2)]) rfl rfl rfl rfl rfl (r_X12_ofSuspect_0 ?_)
      refine s_X12_isSuspect hn h1 (fun _ _ => ⟨⟨by decide, by decide⟩, fun h => absurd h (by decide), fun _ => ?_⟩) (fun h => absurd h (by omega))
      refine s_X12_isIn h2 ⟨by decide, by decide⟩ ⟨by decide, by decide⟩ (fun _ _ => ⟨⟨by decide, by decide⟩, fun _ => ⟨h2, fun _ => hg _ _ ⟨rfl, hx, hI⟩, fun h => absurd h (by omega)⟩, fun h => absurd h (by decide)⟩) (fun h => absurd h (by omega))
    refine mkI (ls := [some (vR 1), some (vI ((p : Int))), some (vI a2), none]) rfl rfl rfl rfl rfl (r_X11_ofSuspect_0 ?_)
    refine s_X7_hasSuspect hI.s h1 (fun _ _ => ⟨⟨by decide, by decide⟩, fun _ => ⟨h2, ?_⟩, fun h => absurd h (by decide)⟩) (fun h => absurd h (by omega))
    rw [show ((p : Int)).toNat = p from rfl]
    refine ⟨fun h => ?_, fun h => ?_, fun h => ?_, fun h => ?_, fun h => ?_, fun h => ?_, fun h => ?_⟩
    · refine mkI (ls := [some (vR 134), some (vI ((p : Int))), some (vI a2)]) rfl rfl rfl rfl rfl (r_X12_ofSuspect_0 ?_)
      refine s_X12_isSuspect hn h1 (fun _ _ => ⟨⟨by decide, by decide⟩, fun h => absurd h (by decide), fun _ => ?_⟩) (fun h => absurd h (by omega))
      exact s_X12_isIn h2 ⟨by decide, by decide⟩ ⟨by decide, by decide⟩ (fun _ _ => absurd h (by omega)) (fun _ => ⟨⟨by decide, by decide⟩, fun h => absurd rfl h, fun _ => ⟨rfl, ⟨by decide, by decide⟩, hI⟩⟩)
    · refine s_X7_isGuilty hI.s (by omega) c.2 fun r er r0 r1 => ⟨⟨by omega, by omega⟩, fun e => ?_, fun e => ?_⟩
      · exact fin 0 (by omega) (by omega) ⟨by decide, by decide⟩ fun d' K' hk => by rw [h]; exact s_get0 (by omega) (by rw [show g 135 (16 + 7 * p) = 0 by omega]; exact hk)
      · exact fin 1 (by omega) (by omega) ⟨by decide, by decide⟩ fun d' K' hk => by rw [h]; exact s_get0 (by omega) (by rw [show g 135 (16 + 7 * p) = 1 by omega]; exact hk)
    · refine ⟨by omega, by omega, fin _ (by omega) (by omega) ⟨by omega, by omega⟩ fun d' K' hk => by rw [h]; exact s_get1 (by omega) (by rw [← hp.2.1]; exact hk)⟩
    · refine ⟨by omega, by omega, fin _ (by omega) (by omega) ⟨by omega, by omega⟩ fun d' K' hk => by rw [h]; exact s_get2 (by omega) (by rw [← hp.2.2.1]; exact hk)⟩
    · refine ⟨by omega, by omega, fin _ (by omega) (by omega) ⟨by omega, by omega⟩ fun d' K' hk => by rw [h]; exact s_get3 (by omega) (by rw [← hp.2.2.2.1]; exact hk)⟩
    · refine s_X7_comes hI.s (by omega) c.2 fun r er r0 r1 => ⟨⟨by omega, by omega⟩, fun e => ?_, fun e => ?_⟩
      · exact fin 0 (by omega) (by omega) ⟨by decide, by decide⟩ fun d' K' hk => by rw [h]; exact s_get4 (by omega) (by rw [show g 135 (20 + 7 * p) = 0 by omega]; exact hk)
      · exact fin 1 (by omega) (by omega) ⟨by decide, by decide⟩ fun d' K' hk => by rw [h]; exact s_get4 (by omega) (by rw [show g 135 (20 + 7 * p) = 1 by omega]; exact hk)
    · have hpb := paysA_b hA (g 137) (p := p) (by omega) c.2
      refine p_now hI ClScr.rf (by omega) c.2 fun g1 f1 hs => ?_
      have e5 := hs 135 (by omega)
      refine mkI (ls := [some (vR 134), some (vI ((p : Int))), some (vI a2)]) rfl rfl rfl rfl rfl (r_X12_ofSuspect_0 ?_)
      refine s_X12_isSuspect (by rw [e5]; exact hn) h1 (fun _ _ => ⟨⟨by decide, by decide⟩, fun h => absurd h (by decide), fun _ => ?_⟩) (fun h => absurd h (by rw [e5]; omega))
      refine s_X12_isIn h2 ⟨by decide, by decide⟩ ⟨by decide, by decide⟩ (fun _ _ => ⟨⟨by decide, by decide⟩, fun _ => ⟨h2, fun h' => absurd h h', fun _ => ?_⟩, fun h => absurd h (by decide)⟩) (fun h => absurd h (by omega))
      exact p_of hI (RE.of hs RefScr.rf) (by omega) c.2 fun g3 f3 => ⟨rfl, ⟨by omega, by omega⟩, hI.scr hs f3.scr⟩
  · refine mkI (ls := [some (vR 1), some (vI a1), some (vI a2), none]) rfl rfl rfl rfl rfl (r_X11_ofSuspect_0 ?_)
    refine s_X7_hasSuspect hI.s h1 (fun _ _ => absurd ⟨by assumption, by assumption⟩ c) (fun _ => ⟨⟨by decide, by decide⟩, fun h => absurd rfl h, fun _ => ?_⟩)
    refine mkI (ls := [some (vR 134), some (vI a1), some (vI a2)]) rfl rfl rfl rfl rfl (r_X12_ofSuspect_0 ?_)
    exact s_X12_isSuspect hn h1 (fun _ _ => absurd ⟨by assumption, by assumption⟩ c) (fun h => ⟨⟨by decide, by decide⟩, fun _ => ⟨rfl, ⟨by decide, by decide⟩, hI⟩, fun h => absurd rfl h⟩)
