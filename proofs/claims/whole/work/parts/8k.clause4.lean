-- the reference's clause as it was said
theorem two_bad {kd vl : Nat → Int} {w t : Nat} {r : CRes} {f : Int} {p : Nat} (h : TwoR kd vl w t r) (h' : (Fig kd vl 0 (mx1 w) t f ∧ f ≠ 0 ∧ p = t) ∨ (Fig kd vl 0 (mx1 w) t 0 ∧ kd (t + 1) ≠ btw w ∧ f = 1 ∧ p = t + 1) ∨ (Fig kd vl 0 (mx1 w) t 0 ∧ kd (t + 1) = btw w ∧ Fig kd vl (lo2 w) (hi2 w) (t + 2) f ∧ f ≠ 0 ∧ p = t + 2)) : r = .inl (f, p) := by
  rcases h with ⟨f1, a1, a2, a3⟩ | ⟨a1, a2, a3⟩ | ⟨a1, a2, f1, a3, a4, a5⟩ | ⟨a1, a2, a3, a4, a5⟩ | ⟨a1, a2, a3, a4, a5⟩ <;> rcases h' with ⟨b1, b2, b3⟩ | ⟨b1, b2, b3, b4⟩ | ⟨b1, b2, b3, b4, b5⟩
  · rw [a3, b3, fig_det a1 b1]
  · exact absurd (fig_det a1 b1) a2
  · exact absurd (fig_det a1 b1) a2
  · exact absurd (fig_det b1 a1) b2
  · rw [a3, b3, b4]
  · exact absurd b2 a2
  · exact absurd (fig_det b1 a1) b2
  · exact absurd a2 b2
  · rw [a5, b5, fig_det a3 b3]
  · exact absurd (fig_det b1 a1) b2
  · exact absurd a2 b2
  · exact absurd (fig_det b3 a3) b4
  · exact absurd (fig_det b1 a1) b2
  · exact absurd a2 b2
  · exact absurd (fig_det b3 a3) b4
theorem two_ok {kd vl : Nat → Int} {w t : Nat} {r : CRes} (h : TwoR kd vl w t r) (b1 : Fig kd vl 0 (mx1 w) t 0) (b2 : kd (t + 1) = btw w) (b3 : Fig kd vl (lo2 w) (hi2 w) (t + 2) 0) : (kd (t + 3) ≠ 9 → r = .inl (1, t + 3)) ∧ (kd (t + 3) = 9 → r = .inr (t + 4, w, vl t, vl (t + 2), [])) := by
  rcases h with ⟨f1, a1, a2, a3⟩ | ⟨a1, a2, a3⟩ | ⟨a1, a2, f1, a3, a4, a5⟩ | ⟨a1, a2, a3, a4, a5⟩ | ⟨a1, a2, a3, a4, a5⟩
  · exact absurd (fig_det a1 b1) a2
  · exact absurd b2 a2
  · exact absurd (fig_det a3 b3) a4
  · exact ⟨fun _ => a5, fun h => absurd h a4⟩
  · exact ⟨fun h => absurd a4 h, fun _ => a5⟩
theorem one_badN {kd vl : Nat → Int} {w t : Nat} {r : CRes} {f : Int} (h : OneN kd vl w t r) (b1 : Fig kd vl (lo1 w) (hi1 w) t f) (b2 : f ≠ 0) : r = .inl (f, t) := by
  rcases h with ⟨f1, a1, a2, a3⟩ | ⟨a1, a2, a3⟩ | ⟨a1, a2, a3⟩
  · rw [a3, fig_det a1 b1]
  · exact absurd (fig_det b1 a1) b2
  · exact absurd (fig_det b1 a1) b2
theorem one_okN {kd vl : Nat → Int} {w t : Nat} {r : CRes} (h : OneN kd vl w t r) (b1 : Fig kd vl (lo1 w) (hi1 w) t 0) : (kd (t + 1) ≠ 9 → r = .inl (1, t + 1)) ∧ (kd (t + 1) = 9 → r = .inr (t + 2, w, vl t, 0, [])) := by
  rcases h with ⟨f1, a1, a2, a3⟩ | ⟨a1, a2, a3⟩ | ⟨a1, a2, a3⟩
  · exact absurd (fig_det a1 b1) a2
  · exact ⟨fun _ => a3, fun h => absurd h a2⟩
  · exact ⟨fun h => absurd a2 h, fun _ => a3⟩
section CB
variable {B : Nat → Int} {n k : Nat} {st ln : Nat → Nat} {x0 cs : Nat}
theorem r_body {d : Nat} {dd : List (Nat × Nat)} {sh : Nat → Nat → Nat} {g : Nat → Nat → Int} {K : Int → (Nat → Nat → Int) → Prop} {t c w : Nat} {r : CRes} (hL : LT B n k st ln g) (hT : TkR B n k st ln (g 134) t) (hs : w ≤ 2 → srtP (w == 2) g) (h12 : g 134 12 = (x0 : Int)) (hx0 : x0 ≤ 2043) (h13 : g 134 13 = (cs : Int)) (htk : t ≤ k) (hcs : cs ≤ t) (hc : c < 24) (hw : w ≤ 10)
    (hr : (w ≤ 2 ∧ LawR (kdF B k st ln) (vlF B k st ln) w t r) ∨ (3 ≤ w ∧ isTwo w ∧ TwoR (kdF B k st ln) (vlF B k st ln) w t r) ∨ (3 ≤ w ∧ ¬ isTwo w ∧ OneN (kdF B k st ln) (vlF B k st ln) w t r))
    (hbad : ∀ f p g', r = .inl (f, p) → f ≠ 0 → i32 f → TxF x0 g g' → g' 134 8 = ((stK n k st p : Nat) : Int) → K f g')
    (hok : ∀ t' v v2 C g', (kdF B k st ln t' ≠ 9 → r = .inl (1, t')) → (kdF B k st ln t' = 9 → r = .inr (t' + 1, w, v, v2, C)) → TxF x0 g g' → (∀ i, (i ≠ x0 + 2 + 3 * c) → (i ≠ x0 + 3 + 3 * c) → (i < x0 + 73 + 2 * cs) → g' 137 i = g 137 i) → LT B n k st ln g' → TkR B n k st ln (g' 134) t' → (3 ≤ w → g' 137 (x0 + 2 + 3 * c) = v) → (isTwo w → g' 137 (x0 + 3 + 3 * c) = v2) → (w ≤ 2 → g' 137 (x0 + 2 + 3 * c) = (cs : Int) ∧ g' 137 (x0 + 3 + 3 * c) = ((cs + C.length : Nat) : Int)) → Cod g' x0 cs C → g' 134 13 = ((cs + C.length : Nat) : Int) → g' 134 19 = g 134 19 → K 0 g') : cI (d + 10) m_X12_body [(vR 134), (vI (w : Int)), (vI ((x0 + 1 + 3 * c : Nat) : Int))] dd sh g K := by
  have fi : ∀ {lo hi t f}, Fig (kdF B k st ln) (vlF B k st ln) lo hi t f → i32 f := fun h => by
    rcases h with ⟨_, h⟩ | ⟨_, _, h⟩ | ⟨_, _, _, h⟩ <;> (rw [h]; exact ⟨by decide, by decide⟩)
  have law : w ≤ 2 → cI (d + 9) m_X12_lawClause [(vR 134), (vI ((x0 + 1 + 3 * c : Nat) : Int))] dd sh g K := fun hw2 => by
    have hr1 : LawR (kdF B k st ln) (vlF B k st ln) w t r := by
      rcases hr with ⟨_, h⟩ | ⟨h, _⟩ | ⟨h, _⟩
      · exact h
      · omega
      · omega
    obtain ⟨r', hsum, hrr⟩ := hr1
    refine mkI (ls := [some (vR 134), some (vI ((x0 + 1 + 3 * c : Nat) : Int)), none]) rfl rfl rfl rfl rfl (r_X12_lawClause_0 ⟨by omega, by omega, ?_⟩)
    rw [h13, show (((x0 + 1 + 3 * c : Nat) : Int) + 1).toNat = x0 + 2 + 3 * c by omega, show (((x0 + 1 + 3 * c : Nat) : Int) + 2).toNat = x0 + 3 + 3 * c by omega]
    have f0 : TxF x0 g (up g 137 (x0 + 2 + 3 * c) (cs : Int)) := ⟨fun q _ q2 _ => up_off q2, fun j _ => by rw [up_off (by decide)], fun i hi => by rw [up_at, if_neg (by omega)]⟩
    refine m_summed (d := d) (pays := w == 2) (cs := cs) (x0 := x0) (hL.txf f0) ?_ (hT.fr fun j _ _ => by rw [up_off (by decide)]) (by rw [up_off (by decide)]; exact h12) hx0 (by rw [up_off (by decide)]; exact h13) htk hcs hsum (fun f p e g' f' hp => ⟨by omega, by omega, ?_⟩) (fun t' C e g' f' hL' hT' h13' hC => ⟨by omega, by omega, ?_⟩)
    · have := hs hw2
      unfold srtP
      rw [up_off (by decide)]; exact this
    · have er : r = .inl (f, p) := by
        rcases hrr with ⟨e', e1, e2⟩ | ⟨t', C, e1, _⟩
        · rw [e] at e1; cases e1; exact e2
        · rw [e] at e1; cases e1
      have hfb := sum_bad (kd := kdF B k st ln) (k := k) (fun t => kdF_lt) (fun t t' c hh h => one_ok (fun t => kdF_lt) 8 false t t' c hh h) (fun t e hh h => one_bad (fun t => kdF_lt) 8 false t e hh h) 300 t [] (-1) (-1) (f, p) htk (by rw [e] at hsum; exact hsum)
      have hf17 : 1 ≤ f ∧ f ≤ 7 := hfb.1
      have f1 : TxF x0 g' (up g' 137 (x0 + 3 + 3 * c) (g' 134 13)) := ⟨fun q _ q2 _ => up_off q2, fun j _ => by rw [up_off (by decide)], fun i hi => by rw [up_at, if_neg (by omega)]⟩
      exact hbad f p _ er (by omega) ⟨by omega, by omega⟩ (f0.tr (f'.txf.tr f1)) (by rw [up_off (by decide)]; exact hp)
    · have f1 : TxF x0 g' (up g' 137 (x0 + 3 + 3 * c) (g' 134 13)) := ⟨fun q _ q2 _ => up_off q2, fun j _ => by rw [up_off (by decide)], fun i hi => by rw [up_at, if_neg (by omega)]⟩
      have hrel : (kdF B k st ln t' ≠ 9 → r = .inl (1, t')) ∧ (kdF B k st ln t' = 9 → r = .inr (t' + 1, w, 0, 0, C)) := by
        rcases hrr with ⟨e', e1, e2⟩ | ⟨t1, C1, e1, e2⟩
        · rw [e] at e1; cases e1
        · rw [e] at e1
          cases e1
          rcases e2 with ⟨a, b⟩ | ⟨a, b⟩
          · exact ⟨fun _ => b, fun h => absurd h a⟩
          · exact ⟨fun h => absurd a h, fun _ => b⟩
      refine hok t' 0 0 C _ hrel.1 hrel.2 (f0.tr (f'.txf.tr f1)) (fun i h1 h2 h3 => ?_) (hL'.txf f1) (hT'.fr fun j _ _ => by rw [up_off (by decide)]) (fun h => absurd h (by omega)) (fun h => absurd h (by unfold isTwo; omega)) (fun _ => ⟨?_, ?_⟩) (fun i hi => ?_) (by rw [up_off (by decide)]; exact h13') ?_
      · rw [up_at, if_neg h2, f'.2.2 i (by omega), up_at, if_neg h1]
      · rw [up_at, if_neg (by omega), f'.2.2 _ (by omega), up_at, if_pos rfl]
      · rw [up_at, if_pos rfl]; exact h13'
      · rw [up_at, if_neg (by omega), up_at, if_neg (by omega)]; exact hC i hi
      · rw [up_off (by decide), f'.2.1 19 (by decide) (by decide) (by decide) (by decide) (by decide), up_off (by decide)]
  have two : ∀ c1, isTwo w → c1 = wco (if w = 5 then 22 else 21) → cI (d + 9) m_X12_pair [(vR 134), (vI ((x0 + 1 + 3 * c : Nat) : Int)), (vI (mx1 w)), (vL c1), (vI (lo2 w)), (vI (hi2 w))] dd sh g K := fun c1 h2 hc1 => by
    have hr1 : TwoR (kdF B k st ln) (vlF B k st ln) w t r := by
      rcases hr with ⟨h, _⟩ | ⟨_, _, h⟩ | ⟨_, h, _⟩
      · unfold isTwo at h2; omega
      · exact h
      · exact absurd h2 h
    refine s_X12_pair (d := d + 5) hL hT (by omega) hc1 (fun b1 b2 b3 g' o1 o2 o3 hL' hT' v1 v2 => ?_) (fun f p hb g' o1 o2 o3 hp => ?_)
    · have hrel := two_ok hr1 b1 b2 b3
      refine hok (t + 3) (vlF B k st ln t) (vlF B k st ln (t + 2)) [] g' hrel.1 hrel.2 ⟨fun q a b _ => o1 q a b, fun j hj => o2 j (by omega), fun i hi => o3 i (by omega) (by omega)⟩ (fun i h1 h2 _ => o3 i (by omega) (by omega)) hL' hT' (fun _ => ?_) (fun _ => ?_) (fun h => by unfold isTwo at h2; omega) (fun i hi => absurd hi (by simp)) (by rw [o2 13 (by decide)]; exact h13) (o2 19 (by decide))
      · rw [show x0 + 2 + 3 * c = x0 + 1 + 3 * c + 1 by omega]; exact v1
      · rw [show x0 + 3 + 3 * c = x0 + 1 + 3 * c + 2 by omega]; exact v2
    · have er := two_bad hr1 hb
      have hf : f ≠ 0 ∧ i32 f := by
        rcases hb with ⟨a, b, _⟩ | ⟨_, _, a, _⟩ | ⟨_, _, a, b, _⟩
        · exact ⟨b, fi a⟩
        · rw [a]; exact ⟨by decide, ⟨by decide, by decide⟩⟩
        · exact ⟨b, fi a⟩
      exact hbad f p g' er hf.1 hf.2 ⟨fun q a b _ => o1 q a b, fun j hj => o2 j (by omega), fun i hi => o3 i (by omega) (by omega)⟩ hp
  have one : ¬ isTwo w → 3 ≤ w → ∀ (K' : Int → (Nat → Nat → Int) → Prop), (∀ a b, K a b → K' a b) → cI (d + 9) m_X12_figure [(vR 134), (vI (((x0 + 1 + 3 * c : Nat) : Int) + 1)), (vI (lo1 w)), (vI (hi1 w))] dd sh g K' := fun h2 h3 K' hKK => by
    have hr1 : OneN (kdF B k st ln) (vlF B k st ln) w t r := by
      rcases hr with ⟨h, _⟩ | ⟨_, h, _⟩ | ⟨_, _, h⟩
      · omega
      · exact absurd h h2
      · exact h
    have hl : 0 ≤ lo1 w ∧ lo1 w ≤ 9999 := by unfold lo1; split <;> decide
    have hh : 0 ≤ hi1 w ∧ hi1 w ≤ 9999 := by unfold hi1; split <;> (try split) <;> decide
    rw [show (((x0 + 1 + 3 * c : Nat) : Int) + 1) = ((x0 + 2 + 3 * c : Nat) : Int) by omega]
    refine s_X12_figure (d := d + 6) (x0 := x0) hL hT (by omega) hl hh (fun b1 g' f' hL' hT' v1 => hKK _ _ ?_) (fun f b1 b2 => hKK _ _ ?_)
    · have hrel := one_okN hr1 b1
      refine hok (t + 1) (vlF B k st ln t) 0 [] g' hrel.1 hrel.2 (f'.txf (by omega)) (fun i h1 _ _ => f'.2.2 i h1) hL' hT' (fun _ => v1) (fun h => absurd h h2) (fun h => by omega) (fun i hi => absurd hi (by simp)) (by rw [f'.2.1 13 (by decide)]; exact h13) (f'.2.1 19 (by decide))
    · exact hbad f t g (one_badN hr1 b1 b2) b2 (fi b1) TxF.rf hT.place
  refine mkI (ls := [some (vR 134), some (vI (w : Int)), some (vI ((x0 + 1 + 3 * c : Nat) : Int))]) rfl rfl rfl rfl rfl (r_X12_body_0 ?_)
  have hc11 : w ≤ 2 ∨ w = 3 ∨ w = 4 ∨ w = 5 ∨ w = 6 ∨ w = 7 ∨ w = 8 ∨ w = 9 ∨ w = 10 := by omega
  rcases hc11 with hw2 | rfl | rfl | rfl | rfl | rfl | rfl | rfl | rfl
  · exact ⟨⟨by omega, by omega⟩, fun _ => ⟨fun h => absurd h (by omega), fun _ => law hw2⟩, fun h => absurd h (by omega), fun h => absurd h (by omega), fun h => absurd h (by omega), fun h => absurd h (by omega), fun h => absurd h (by omega), fun h => absurd h (by omega)⟩
  · exact ⟨⟨by decide, by decide⟩, fun _ => ⟨fun _ => s_X12_w2 (d := d + 8) (by decide) (by decide) (two _ (by unfold isTwo; decide) (by decide)), fun h => absurd h (by decide)⟩, fun h => absurd h (by decide), fun h => absurd h (by decide), fun h => absurd h (by decide), fun h => absurd h (by decide), fun h => absurd h (by decide), fun h => absurd h (by decide)⟩
  · exact ⟨⟨by decide, by decide⟩, fun _ => ⟨fun _ => s_X12_w2 (d := d + 8) (by decide) (by decide) (two _ (by unfold isTwo; decide) (by decide)), fun h => absurd h (by decide)⟩, fun h => absurd h (by decide), fun h => absurd h (by decide), fun h => absurd h (by decide), fun h => absurd h (by decide), fun h => absurd h (by decide), fun h => absurd h (by decide)⟩
  · exact ⟨⟨by decide, by decide⟩, fun h => absurd h (by decide), fun _ => s_X12_w3 (d := d + 7) (by decide) (by decide) (by decide) (two _ (by unfold isTwo; decide) (by decide)), fun h => absurd h (by decide), fun h => absurd h (by decide), fun h => absurd h (by decide), fun h => absurd h (by decide), fun h => absurd h (by decide)⟩
  · exact ⟨⟨by decide, by decide⟩, fun h => absurd h (by decide), fun h => absurd h (by decide), fun _ => one (by unfold isTwo; decide) (by decide) _ (fun _ _ h => h), fun h => absurd h (by decide), fun h => absurd h (by decide), fun h => absurd h (by decide), fun h => absurd h (by decide)⟩
  · exact ⟨⟨by decide, by decide⟩, fun h => absurd h (by decide), fun h => absurd h (by decide), fun h => absurd h (by decide), fun _ => one (by unfold isTwo; decide) (by decide) _ (fun _ _ h => h), fun h => absurd h (by decide), fun h => absurd h (by decide), fun h => absurd h (by decide)⟩
  · exact ⟨⟨by decide, by decide⟩, fun h => absurd h (by decide), fun h => absurd h (by decide), fun h => absurd h (by decide), fun h => absurd h (by decide), fun _ => one (by unfold isTwo; decide) (by decide) _ (fun _ _ h => h), fun h => absurd h (by decide), fun h => absurd h (by decide)⟩
  · exact ⟨⟨by decide, by decide⟩, fun h => absurd h (by decide), fun h => absurd h (by decide), fun h => absurd h (by decide), fun h => absurd h (by decide), fun h => absurd h (by decide), fun _ => s_X12_w2 (d := d + 8) (by decide) (by decide) (two _ (by unfold isTwo; decide) (by decide)), fun h => absurd h (by decide)⟩
  · exact ⟨⟨by decide, by decide⟩, fun h => absurd h (by decide), fun h => absurd h (by decide), fun h => absurd h (by decide), fun h => absurd h (by decide), fun h => absurd h (by decide), fun h => absurd h (by decide), fun _ => one (by unfold isTwo; decide) (by decide) _ (fun _ _ h => h)⟩
theorem r_clause {d : Nat} {dd : List (Nat × Nat)} {sh : Nat → Nat → Nat} {g : Nat → Nat → Int} {K : Int → (Nat → Nat → Int) → Prop} {t c : Nat} {ow : Nat → Prop} {r : CRes} (hL : LT B n k st ln g) (hT : TkR B n k st ln (g 134) t) (h12 : g 134 12 = (x0 : Int)) (hx0 : x0 ≤ 2043) (h13 : g 134 13 = (cs : Int)) (htk : t ≤ k) (hcs : cs ≤ t) (hc : c ≤ 24) (hTc : g 137 x0 = (c : Int)) (ho : 0 ≤ g 134 19 ∧ g 134 19 < 8) (how : ∀ w, w < 3 → (bt (g 134 19) w = 1 ↔ ow w)) (hr : ClauseR (kdF B k st ln) (vlF B k st ln) c ow t r)
    (hbad : ∀ f p g', r = .inl (f, p) → f ≠ 0 → i32 f → TxF x0 g g' → g' 134 8 = ((stK n k st p : Nat) : Int) → K f g')
    (hok : ∀ t' kk v w C g', r = .inr (t', kk, v, w, C) → TxF x0 g g' → AfR x0 c cs g g' kk v w C → LT B n k st ln g' → TkR B n k st ln (g' 134) t' → K 0 g') : cI (d + 11) m_X12_clause [(vR 134)] dd sh g K := by
  refine mkI (ls := [some (vR 134), none, none, none, none]) rfl rfl rfl rfl rfl (r_X12_clause_0 ?_)
  obtain ⟨l1, l2, l3, l4, l5⟩ := id hL
  subst l4
  refine s_X12_sortOf (d := d + 4) l1 l3 l2 l5 hT (fun h10 h20 => ?_) (fun hno => ⟨⟨by decide, by decide⟩, fun h => absurd h (by decide), fun _ => ?_⟩)
  · obtain ⟨w, hw⟩ := Int.eq_ofNat_of_zero_le (show 0 ≤ kdF (g 138) k st ln t - 10 by omega)
    have hkw : kdF (g 138) k st ln t = 10 + (w : Int) := by omega
    have hr1 : (w ≤ 2 ∧ ow w ∧ r = .inl (4, t)) ∨ (¬ (w ≤ 2 ∧ ow w) ∧ c = 24 ∧ r = .inl (6, t)) ∨ (¬ (w ≤ 2 ∧ ow w) ∧ c < 24 ∧ ((w ≤ 2 ∧ LawR (kdF (g 138) k st ln) (vlF (g 138) k st ln) w (t + 1) r) ∨ (3 ≤ w ∧ isTwo w ∧ TwoR (kdF (g 138) k st ln) (vlF (g 138) k st ln) w (t + 1) r) ∨ (3 ≤ w ∧ ¬ isTwo w ∧ OneN (kdF (g 138) k st ln) (vlF (g 138) k st ln) w (t + 1) r))) := by
      rcases hr with ⟨h, _⟩ | ⟨w', h1, h2, h⟩
      · exact absurd ⟨h10, h20⟩ h
      · have : w' = w := by omega
        subst this; exact h
    have htk' := kdF_lt (B := g 138) (k := k) (st := st) (ln := ln) (t := t) (by omega)
    rw [hw, h12, show ((x0 : Int)).toNat = x0 from rfl, hTc]
    -- behind the word: the body, then the semicolon
    have go : ∀ o, (o = if w ≤ 2 then ior (g 134 19) ((1 : Int) * 2 ^ w) else g 134 19) → ¬ (w ≤ 2 ∧ ow w) → c < 24 → ∀ g0, (∀ q, q ≠ 134 → g0 q = g q) → (∀ j, j ≠ 14 → j ≠ 19 → g0 134 j = g 134 j) → g0 134 14 = (w : Int) → g0 134 19 = o → cV (d + 10) m_X12_nextToken [(vR 134)] dd sh g0 (fun g13 => (0 ≤ ((g13 134 12) + 1) + (3 * (c : Int))) ∧ (((g13 134 12) + 1) + (3 * (c : Int)) < 2724) ∧ cI (d + 10) m_X12_body [(vR 134), (vI (w : Int)), (vI (((g13 134 12) + 1) + (3 * (c : Int))))] dd sh (up g13 137 ((((g13 134 12) + 1) + (3 * (c : Int))).toNat) (w : Int)) (fun r17 g18 => (i32 r17) ∧ ((r17 = 0 → rI (d + 10) m_X12_clause 108 [some (vR 134), none, none, none, none] [] dd sh g18 K) ∧ (¬ r17 = 0 → K r17 g18)))) := by
      intro o ho' hn hlt g0 o1 j1 e14 e19
      have hr2 := (hr1.resolve_left fun x => hn ⟨x.1, x.2.1⟩).resolve_left fun x => by omega
      have hL0 : LT (g 138) n k st ln g0 := by
        unfold LT
        rw [j1 4 (by decide) (by decide), o1 138 (by decide)]; exact ⟨l1, l2, l3, rfl, l5⟩
      refine c_nextT (d := d + 8) hL0 (hT.fr fun j _ _ => j1 j (by omega) (by omega)) (by omega) fun g2 o2 j2 hT2 => ?_
      have e12 : g2 134 12 = (x0 : Int) := by rw [j2 12 (by decide), j1 12 (by decide) (by decide)]; exact h12
      rw [e12, show (((x0 : Int) + 1) + (3 * (c : Int))) = ((x0 + 1 + 3 * c : Nat) : Int) by omega, show (((x0 + 1 + 3 * c : Nat) : Int)).toNat = x0 + 1 + 3 * c from rfl]
      have u134 : ∀ j, (up g2 137 (x0 + 1 + 3 * c) (w : Int)) 134 j = g2 134 j := fun j => by rw [up_off (by decide)]
      have f02 : TxF x0 g (up g2 137 (x0 + 1 + 3 * c) (w : Int)) := ⟨fun q a b _ => by rw [up_off b, o2 q a, o1 q a], fun j hj => by rw [u134, j2 j (by omega), j1 j (by omega) (by omega)], fun i hi => by rw [up_at, if_neg (by omega), o2 137 (by decide), o1 137 (by decide)]⟩
      refine ⟨by omega, by omega, ?_⟩
      refine r_body (d := d) (x0 := x0) (cs := cs) (c := c) (hL.txf f02) (hT2.fr fun j _ _ => u134 j) (fun hw2 => ?_) (by rw [u134]; exact e12) hx0 (by rw [u134, j2 13 (by decide), j1 13 (by decide) (by decide)]; exact h13) (by omega) (by omega) hlt (by omega) hr2.2.2 (fun f p g' er hf hfi f' hp => ⟨hfi, fun h => absurd h hf, fun _ => hbad f p g' er hf hfi (f02.tr f') hp⟩) (fun t' v v2 C g' n9 y9 f' fr' hL' hT' v1 v2' vl' hC h13' e19' => ⟨⟨by decide, by decide⟩, fun _ => ?_, fun h => absurd rfl h⟩)
      · have e14' : (up g2 137 (x0 + 1 + 3 * c) (w : Int)) 134 14 = (w : Int) := by rw [u134, j2 14 (by decide)]; exact e14
        unfold srtP
        rw [e14', beq_iff_eq]
        omega
      · have hx12 : g' 134 12 = (x0 : Int) := by rw [f'.2.1 12 (by decide), u134]; exact e12
        have eTc : g' 137 x0 = (c : Int) := by rw [fr' x0 (by omega) (by omega) (by omega), up_at, if_neg (by omega), o2 137 (by decide), o1 137 (by decide)]; exact hTc
        obtain ⟨_, _, _, _, _, _, m9, _, _⟩ := hT'.m9
        have i9 := hT'.i9 hL'.2.2.1 hL'.2.1 hL'.2.2.2.2
        have hL2 : LT (g 138) n k st ln (up g' 137 x0 ((c : Int) + 1)) := by
          unfold LT
          rw [up_off (by decide), up_off (by decide)]; exact hL'
        have hT3 : TkR (g 138) n k st ln ((up g' 137 x0 ((c : Int) + 1)) 134) t' := hT'.fr fun j _ _ => by rw [up_off (by decide)]
        have f3 : TxF x0 g' (up g' 137 x0 ((c : Int) + 1)) := ⟨fun q a b _ => up_off b, fun j _ => by rw [up_off (by decide)], fun i hi => by rw [up_at, if_neg (by omega)]⟩
        refine r_X12_clause_108 ?_
        rw [hx12, show ((x0 : Int)).toNat = x0 from rfl, eTc]
        refine ⟨by omega, by omega, ⟨by omega, by omega⟩, fun e59 => ?_, fun n59 => ?_⟩
        · have ek9 := m9.mp e59
          refine c_nextT (d := d + 8) hL2 hT3 (by omega) fun g5 o5 j5 hT5 => ?_
          have f5 : TxF x0 (up g' 137 x0 ((c : Int) + 1)) g5 := ⟨fun q a _ _ => o5 q a, fun j hj => j5 j (by omega), fun i _ => by rw [o5 137 (by decide)]⟩
          have r137 : ∀ i, i ≠ x0 → g5 137 i = g' 137 i := fun i hi => by rw [o5 137 (by decide), up_at, if_neg hi]
          refine hok (t' + 1) w v v2 C g5 (y9 ek9) (f02.tr (f'.tr (f3.tr f5))) ⟨fun i hi => ?_, ?_, ?_, fun h3 => ?_, fun h2 => ?_, fun h2 => ⟨?_, ?_⟩, fun i hi => ?_, ?_, ?_⟩ (hL2.txf f5) hT5
          · rw [r137 i (by omega), fr' i (by omega) (by omega) (by omega), up_at, if_neg (by omega), o2 137 (by decide), o1 137 (by decide)]
          · rw [o5 137 (by decide), up_at, if_pos rfl]
          · rw [r137 _ (by omega), fr' _ (by omega) (by omega) (by omega), up_at, if_pos rfl]
          · rw [r137 _ (by omega)]; exact v1 h3
          · rw [r137 _ (by omega)]; exact v2' h2
          · rw [r137 _ (by omega)]; exact (vl' h2).1
          · rw [r137 _ (by omega)]; exact (vl' h2).2
          · rw [r137 _ (by omega), r137 _ (by omega)]; exact hC i hi
          · rw [j5 13 (by decide), up_off (by decide)]; exact h13'
          · rw [j5 19 (by decide), up_off (by decide), e19', u134, j2 19 (by decide), e19]; exact ho'
        · exact hbad 1 t' _ (n9 fun h => n59 (m9.mpr h)) (by decide) ⟨by decide, by decide⟩ (f02.tr (f'.tr f3)) (by rw [up_off (by decide)]; exact hT'.place)
    have f6 : ¬ (w ≤ 2 ∧ ow w) → c = 24 → K 6 g := fun hn h24 => by
      have hr2 := hr1.resolve_left fun x => hn ⟨x.1, x.2.1⟩
      rcases hr2 with ⟨_, _, e⟩ | ⟨_, h, _⟩
      · exact hbad 6 t g e (by decide) ⟨by decide, by decide⟩ TxF.rf hT.place
      · omega
    refine ⟨⟨by omega, by omega⟩, fun _ => ⟨fun h2 => ⟨by omega, by omega, ⟨by omega, by omega⟩, fun n24 => ⟨fun _ => ?_, fun h => absurd h (by omega)⟩, fun e24 => f6 (fun x => by omega) (by omega)⟩, fun h2 => ?_⟩, fun h => absurd h (by omega)⟩
    · exact go (g 134 19) (if_neg (by omega)).symm (fun x => by omega) (by omega) _ (fun q hq => up_off hq) (fun j a _ => by rw [up_at, if_neg a]) (by rw [up_at, if_pos rfl]) (by rw [up_at, if_neg (by decide)])
    · refine s_X12_has (d := d + 9) ho.1 (by omega) (by omega) (by omega) fun rb er r0 r1 => ⟨⟨by omega, by omega⟩, fun hz => ?_, fun hz => ?_⟩
      · have hnow : ¬ (w ≤ 2 ∧ ow w) := fun x => by
          have := (how w (by omega)).mpr x.2
          rw [show ((w : Int)).toNat = w from rfl] at er
          omega
        rw [h12, show ((x0 : Int)).toNat = x0 from rfl, hTc]
        refine ⟨by omega, by omega, ⟨by omega, by omega⟩, fun n24 => ⟨fun h => absurd h (by omega), fun _ => ⟨by omega, by omega, ?_⟩⟩, fun e24 => f6 hnow (by omega)⟩
        rw [show ((w : Int)).toNat = w from rfl]
        exact go _ (if_pos (by omega)).symm hnow (by omega) _ (fun q hq => by rw [up_off hq, up_off hq]) (fun j a b => by rw [up_at, if_neg a, up_at, if_neg b]) (by rw [up_at, if_pos rfl]) (by rw [up_at, if_neg (by decide), up_at, if_pos rfl])
      · have hyes : ow w := (how w (by omega)).mp (by rw [show ((w : Int)).toNat = w from rfl] at er; omega)
        rcases hr1 with ⟨_, _, e⟩ | ⟨h, _⟩ | ⟨h, _⟩
        · exact hbad 4 t g e (by decide) ⟨by decide, by decide⟩ TxF.rf hT.place
        · exact absurd ⟨by omega, hyes⟩ h
        · exact absurd ⟨by omega, hyes⟩ h
  · have er : r = .inl (1, t) := by
      rcases hr with ⟨_, h⟩ | ⟨w', h1, h2, h⟩
      · exact h
      · omega
    exact hbad 1 t g er (by decide) ⟨by decide, by decide⟩ TxF.rf hT.place
end CB
