-- the class's clause
section CM
variable {k : Nat} {kd vl sp : Nat → Int}
/-- behind a clause that stands -/
def AfC (c cs : Nat) (g g' : Nat → Nat → Int) (kk : Nat) (v w : Int) (C : List (Int × Int)) : Prop :=
  g' 108 6 = (c : Int) + 1 ∧ NB2 g g' ∧ (∀ i, i ≠ c → g' 109 i = g 109 i ∧ g' 110 i = g 110 i ∧ g' 111 i = g 111 i) ∧ g' 109 c = (kk : Int) ∧ (3 ≤ kk → g' 110 c = v) ∧ (isTwo kk → g' 111 c = w) ∧ (∀ i, i < cs → g' 112 i = g 112 i) ∧ Rws g' cs C ∧ (∀ j, (j ≠ kk ∨ 2 < kk) → g' 113 j = g 113 j ∧ g' 114 j = g 114 j) ∧ (kk ≤ 2 → g' 113 kk = (cs : Int) ∧ g' 114 kk = ((cs + C.length : Nat) : Int))
theorem c_deed {d : Nat} {dd : List (Nat × Nat)} {sh : Nat → Nat → Nat} {g : Nat → Nat → Int} {K : (Nat → Nat → Int) → Prop} {e0 t cs c w : Nat} (hT : TS k kd vl sp false false g) (h : Gd k kd g t cs false) (hcs : cs ≤ 300) (h6 : g 108 6 = (c : Int)) (hc : c < 24) (hw : 3 ≤ w ∧ w ≤ 10) (hbad : ∀ f p, ((isTwo w ∧ TwoR kd vl w t (.inl (f, p))) ∨ (¬ isTwo w ∧ OneN kd vl w t (.inl (f, p)))) → ∀ g', NB2 g g' → Bd k kd g' f (sp p) → K g') (hok : ∀ t' v v2, ((isTwo w ∧ TwoR kd vl w t (.inr (t', w, v, v2, []))) ∨ (¬ isTwo w ∧ OneN kd vl w t (.inr (t', w, v, v2, [])))) → ∀ g', NF2 c g g' → Gd k kd g' t' cs false → g' 110 c = v → (isTwo w → g' 111 c = v2) → K g') : cV (d + 5) m_X6_readDeed [(vR 108), (vI (w : Int))] dd sh g (fun g16 => cV (e0 + 2) m_X6_pass [(vR 108), (vI 9)] dd sh g16 K) := by
  have two : ∀ b, isTwo w → 10 + b = btw w → 0 ≤ b ∧ b ≤ 30 → cV (d + 4) m_X6_readTwo [(vR 108), (vI (mx1 w)), (vI b), (vI (lo2 w)), (vI (hi2 w))] dd sh g (fun g16 => cV (e0 + 2) m_X6_pass [(vR 108), (vI 9)] dd sh g16 K) := fun b h2 hb hb2 => c_two (d := d) (e0 := e0) hT h hcs h6 hc hb hb2 (fun f p hr => hbad f p (Or.inl ⟨h2, hr⟩)) (fun t' v v2 hr g' f' hG e1 e2 => hok t' v v2 (Or.inl ⟨h2, hr⟩) g' f' hG e1 fun _ => e2)
  have one : ¬ isTwo w → cI (d + 4) m_X6_readNumber [(vR 108), (vI (lo1 w)), (vI (hi1 w))] dd sh g (fun r3 g4 => (0 ≤ g 108 6) ∧ (g 108 6 < 24) ∧ cV (e0 + 2) m_X6_pass [(vR 108), (vI 9)] dd sh (up g4 110 ((g 108 6).toNat) r3) K) := fun h2 => c_one (d := d + 1) (e0 := e0) hT h hcs h6 hc (fun f p hr => hbad f p (Or.inr ⟨h2, hr⟩)) (fun t' v hr g' f' hG e1 => hok t' v 0 (Or.inr ⟨h2, hr⟩) g' f' hG e1 fun x => absurd x h2)
  refine mkV (ls := [some (vR 108), some (vI (w : Int))]) rfl rfl rfl rfl rfl (r_X6_readDeed_0 ?_)
  have hc8 : w = 3 ∨ w = 4 ∨ w = 5 ∨ w = 6 ∨ w = 7 ∨ w = 8 ∨ w = 9 ∨ w = 10 := by omega
  rcases hc8 with rfl | rfl | rfl | rfl | rfl | rfl | rfl | rfl
  · exact ⟨⟨by decide, by decide⟩, fun h => absurd h (by decide), fun _ => two 21 (by unfold isTwo; decide) (by decide) (by decide), fun h => absurd h (by decide), fun h => absurd h (by decide), fun h => absurd h (by decide), fun h => absurd h (by decide), fun h => absurd h (by decide), fun h => absurd h (by decide), fun h => absurd h (by decide)⟩
  · exact ⟨⟨by decide, by decide⟩, fun h => absurd h (by decide), fun h => absurd h (by decide), fun _ => two 21 (by unfold isTwo; decide) (by decide) (by decide), fun h => absurd h (by decide), fun h => absurd h (by decide), fun h => absurd h (by decide), fun h => absurd h (by decide), fun h => absurd h (by decide), fun h => absurd h (by decide)⟩
  · exact ⟨⟨by decide, by decide⟩, fun h => absurd h (by decide), fun h => absurd h (by decide), fun h => absurd h (by decide), fun _ => two 22 (by unfold isTwo; decide) (by decide) (by decide), fun h => absurd h (by decide), fun h => absurd h (by decide), fun h => absurd h (by decide), fun h => absurd h (by decide), fun h => absurd h (by decide)⟩
  · exact ⟨⟨by decide, by decide⟩, fun h => absurd h (by decide), fun h => absurd h (by decide), fun h => absurd h (by decide), fun h => absurd h (by decide), fun _ => one (by unfold isTwo; decide), fun h => absurd h (by decide), fun h => absurd h (by decide), fun h => absurd h (by decide), fun h => absurd h (by decide)⟩
  · exact ⟨⟨by decide, by decide⟩, fun h => absurd h (by decide), fun h => absurd h (by decide), fun h => absurd h (by decide), fun h => absurd h (by decide), fun h => absurd h (by decide), fun _ => one (by unfold isTwo; decide), fun h => absurd h (by decide), fun h => absurd h (by decide), fun h => absurd h (by decide)⟩
  · exact ⟨⟨by decide, by decide⟩, fun h => absurd h (by decide), fun h => absurd h (by decide), fun h => absurd h (by decide), fun h => absurd h (by decide), fun h => absurd h (by decide), fun h => absurd h (by decide), fun _ => one (by unfold isTwo; decide), fun h => absurd h (by decide), fun h => absurd h (by decide)⟩
  · exact ⟨⟨by decide, by decide⟩, fun h => absurd h (by decide), fun h => absurd h (by decide), fun h => absurd h (by decide), fun h => absurd h (by decide), fun h => absurd h (by decide), fun h => absurd h (by decide), fun h => absurd h (by decide), fun _ => two 21 (by unfold isTwo; decide) (by decide) (by decide), fun h => absurd h (by decide)⟩
  · exact ⟨⟨by decide, by decide⟩, fun h => absurd h (by decide), fun h => absurd h (by decide), fun h => absurd h (by decide), fun h => absurd h (by decide), fun h => absurd h (by decide), fun h => absurd h (by decide), fun h => absurd h (by decide), fun h => absurd h (by decide), fun _ => one (by unfold isTwo; decide)⟩
theorem c_readClause {d : Nat} {dd : List (Nat × Nat)} {sh : Nat → Nat → Nat} {g : Nat → Nat → Int} {K : (Nat → Nat → Int) → Prop} {e t cs c : Nat} {ow : Nat → Prop} (hT : TS k kd vl sp false false g) (h : Gd k kd g t cs false) (hcs : cs ≤ t) (h6 : g 108 6 = (c : Int)) (hc : c ≤ 24) (how : ∀ w, w < 3 → (0 ≤ g 114 w ∧ g 114 w ≤ 300) ∧ (0 < g 114 w ↔ ow w))
    (hbad : ∀ f p, ClauseR kd vl c ow t (.inl (f, p)) → ∀ g', NB2 g g' → Bd k kd g' f (sp p) → K g') (hok : ∀ t' kk v w C, ClauseR kd vl c ow t (.inr (t', kk, v, w, C)) → ∀ g', AfC c cs g g' kk v w C → Gd k kd g' t' (cs + C.length) false → K g') : cV (e + 21) m_X6_readClause [(vR 108)] dd sh g K := by
  have hk := hT.2.2.2.2.2.1
  have hk3 := hT.2.1
  have hk32 := hT.2.2.2.2.1 t
  have htk := h.2.2.1
  refine mkV (ls := [some (vR 108), none]) rfl rfl rfl rfl rfl (r_X6_readClause_0 ?_)
  rw [h.2.2.2.1]
  have fl : ∀ f, (1 ≤ f ∧ f ≤ 7) → ClauseR kd vl c ow t (.inl (f, t)) → cV (e + 20) m_X6_fail [(vR 108), (vI f)] dd sh g (fun g4 => K g4) := fun f hf hr => g_fail (d := e + 19) hT h (by omega) hf fun g1 f1 hB => hbad f t hr g1 f1.nb hB
  by_cases hin : 10 ≤ kd t ∧ kd t ≤ 20
  · obtain ⟨w, hw⟩ := Int.eq_ofNat_of_zero_le (show 0 ≤ kd t - 10 by omega)
    have hkw : kd t = 10 + (w : Int) := by omega
    rw [hw, h6, show ((w : Int)).toNat = w from rfl, show ((c : Int)).toNat = c from rfl]
    have htk' := hk t (by omega)
    have f6 : (¬ (w ≤ 2 ∧ ow w)) → c = 24 → cV (e + 20) m_X6_fail [(vR 108), (vI 6)] dd sh g (fun g28 => K g28) := fun hn h24 => fl 6 (by decide) (Or.inr ⟨w, hkw, by omega, Or.inr (Or.inl ⟨hn, h24, rfl⟩)⟩)
    -- behind the clause's word
    have step : (¬ (w ≤ 2 ∧ ow w)) → c < 24 → cV (e + 20) m_X6_goOn [(vR 108)] dd sh (up g 109 c (w : Int)) (fun g13 => ((2 < (w : Int) → cV (e + 20) m_X6_readDeed [(vR 108), (vI (w : Int))] dd sh g13 (fun g16 => cV (e + 20) m_X6_pass [(vR 108), (vI 9)] dd sh g16 (fun g18 => K (up g18 108 6 ((g18 108 6) + 1))))) ∧ ((w : Int) ≤ 2 → cV (e + 20) m_X6_readSum [(vR 108), (vI 0)] dd sh (up (up g13 108 14 (w : Int)) 113 w (g13 108 10)) (fun g23 => cV (e + 20) m_X6_pass [(vR 108), (vI 9)] dd sh (up g23 114 w (g23 108 10)) (fun g25 => K (up g25 108 6 ((g25 108 6) + 1))))))) := by
      intro hn hlt
      have hT1 : TS k kd vl sp false false (up g 109 c (w : Int)) := hT.off fun q hq => up_off (by omega)
      have hG1 : Gd k kd (up g 109 c (w : Int)) t cs false := h.off fun j _ _ => by rw [up_off (by decide)]
      refine g_goOn (d := e + 19) hT1 hG1 htk' fun g1 f1 e1 hG2 => ⟨fun h2 => ?_, fun h2 => ?_⟩
      · have hT2 := hT1.fr f1
        have h61 : g1 108 6 = (c : Int) := by rw [f1.2 6 (by decide) (by decide) (by decide) (by decide) (by decide) (by decide), up_off (by decide)]; exact h6
        refine c_deed (d := e + 15) (e0 := e + 18) hT2 hG2 (by omega) h61 hlt (by omega) (fun f p hr g' nb hB => ?_) (fun t' v v2 hr g' nf hG ev ev2 => ?_)
        · refine hbad f p (Or.inr ⟨w, hkw, by omega, Or.inr (Or.inr ⟨hn, hlt, ?_⟩)⟩) _ (fun q hq => by rw [up_off (by omega), nb q hq, f1.1 q (by omega) (by omega), up_off (by omega)]) (hB.off fun j j6 _ => by rw [up_at, if_neg j6])
          rcases hr with ⟨a, b⟩ | ⟨a, b⟩
          · exact Or.inr (Or.inl ⟨by omega, a, b⟩)
          · exact Or.inr (Or.inr ⟨by omega, a, b⟩)
        · obtain ⟨n1, n2, n3, n4, n5⟩ := nf
          have hrel : ClauseR kd vl c ow t (.inr (t', w, v, v2, [])) := by
            refine Or.inr ⟨w, hkw, by omega, Or.inr (Or.inr ⟨hn, hlt, ?_⟩)⟩
            rcases hr with ⟨a, b⟩ | ⟨a, b⟩
            · exact Or.inr (Or.inl ⟨by omega, a, b⟩)
            · exact Or.inr (Or.inr ⟨by omega, a, b⟩)
          refine hok t' w v v2 [] hrel _ ⟨?_, fun q hq => ?_, fun i hi => ⟨?_, ?_, ?_⟩, ?_, fun _ => ?_, fun htw => ?_, fun i hi => ?_, fun i hi => absurd hi (by simp), fun j hj => ⟨?_, ?_⟩, fun h => absurd h (by omega)⟩ ?_
          · rw [up_at, if_pos rfl, n5, h61]
          · rw [up_off (by omega), n1 q (by omega), f1.1 q (by omega) (by omega), up_off (by omega)]
          · rw [up_off (by decide), n2, f1.1 109 (by decide) (by decide), up_at, if_neg hi]
          · rw [up_off (by decide), (n4 i hi).1, f1.1 110 (by decide) (by decide), up_off (by decide)]
          · rw [up_off (by decide), (n4 i hi).2, f1.1 111 (by decide) (by decide), up_off (by decide)]
          · rw [up_off (by decide), n2, f1.1 109 (by decide) (by decide), up_at, if_pos rfl]
          · rw [up_off (by decide)]; exact ev
          · rw [up_off (by decide)]; exact ev2 htw
          · rw [up_off (by decide), n3, e1, up_off (by decide)]
          · rw [up_off (by decide), n1 113 (by decide), f1.1 113 (by decide) (by decide), up_off (by decide)]
          · rw [up_off (by decide), n1 114 (by decide), f1.1 114 (by decide) (by decide), up_off (by decide)]
          · exact hG.off fun j j6 _ => by rw [up_at, if_neg j6]
      · -- a law
        have e10 : g1 108 10 = (cs : Int) := hG2.2.2.2.2.1
        rw [e10]
        have hT2 : TS k kd vl sp false false (up (up g1 108 14 (w : Int)) 113 w (cs : Int)) := (hT1.fr f1).off fun q hq => by rw [up_off (by omega), up_off (by omega)]
        have hT2' : TS k kd vl sp (w == 2) true (up (up g1 108 14 (w : Int)) 113 w (cs : Int)) := hT2.law (by omega) (by rw [up_off (by decide), up_at, if_pos rfl])
        have hG3 : Gd k kd (up (up g1 108 14 (w : Int)) 113 w (cs : Int)) (t + 1) cs false := hG2.off fun j _ j14 => by rw [up_off (by decide), up_at, if_neg j14]
        refine c_readSum (d := 0) (e := e) (m := 8) (c_readOne 8 (Nat.le_refl _)) hT2' hG3 (by omega) fun g2 r hr ha => ?_
        obtain ⟨f2, ha⟩ := ha
        have nb2 : NB2 g g2 := fun q hq => by rw [f2.1 q (by omega) (by omega), up_off (by omega), up_off (by omega), f1.1 q (by omega) (by omega), up_off (by omega)]
        cases r with
        | inl x =>
          obtain ⟨f, p⟩ := x
          have hB : Bd k kd g2 f (sp p) := ha
          have hB3 : Bd k kd (up g2 114 w (g2 108 10)) f (sp p) := hB.off fun j _ _ => by rw [up_off (by decide)]
          refine b_pass (d := e + 18) hB3 ?_
          refine hbad f p (Or.inr ⟨w, hkw, by omega, Or.inr (Or.inr ⟨hn, hlt, Or.inl ⟨by omega, _, hr, Or.inl ⟨(f, p), rfl, rfl⟩⟩⟩)⟩) _ (fun q hq => by rw [up_off (by omega), up_off (by omega)]; exact nb2 q hq) (hB3.off fun j j6 _ => by rw [up_at, if_neg j6])
        | inr x =>
          obtain ⟨t', C⟩ := x
          obtain ⟨hG4, hlo, hrw⟩ := ha
          have e102 : g2 108 10 = ((cs + C.length : Nat) : Int) := hG4.2.2.2.2.1
          rw [e102]
          have hT3 : TS k kd vl sp false false (up g2 114 w ((cs + C.length : Nat) : Int)) := ((hT2'.fr f2).weak).off fun q hq => up_off (by omega)
          have hG5 : Gd k kd (up g2 114 w ((cs + C.length : Nat) : Int)) t' (cs + C.length) false := hG4.off fun j _ _ => by rw [up_off (by decide)]
          obtain ⟨_, s1, s2, s3, s4⟩ := sum_ok hk (fun t t' c hh h => one_ok hk 8 false t t' c hh h) 300 (t + 1) [] (-1) (-1) t' C (by omega) (fun x hx => absurd hx (by simp)) hr
          have lm := (dd1_len (-1)).2.1 rfl
          have lc : ([] : List (Int × Int)).length = 0 := rfl
          have h62 : g2 108 6 = (c : Int) := by rw [f2.2 6 (by decide) (by decide) (by decide) (by decide) (by decide) (by decide), up_off (by decide), up_at, if_neg (by decide), f1.2 6 (by decide) (by decide) (by decide) (by decide) (by decide) (by decide), up_off (by decide)]; exact h6
          refine g_pass (d := e + 18) hT3 hG5 (by omega) (by decide) (fun hk9 g3 f3 e3 hG6 => ?_) (fun hk9 g3 f3 hB => ?_)
          · refine hok (t' + 1) w 0 0 C (Or.inr ⟨w, hkw, by omega, Or.inr (Or.inr ⟨hn, hlt, Or.inl ⟨by omega, _, hr, Or.inr ⟨t', C, rfl, Or.inr ⟨hk9, rfl⟩⟩⟩⟩)⟩) _ ⟨?_, fun q hq => ?_, fun i hi => ⟨?_, ?_, ?_⟩, ?_, fun h => absurd h (by omega), fun h => absurd h (by unfold isTwo; omega), fun i hi => ?_, fun i hi => ?_, fun j hj => ⟨?_, ?_⟩, fun _ => ⟨?_, ?_⟩⟩ ?_
            · rw [up_at, if_pos rfl, f3.2 6 (by decide) (by decide) (by decide) (by decide) (by decide) (by decide), up_off (by decide), h62]
            · rw [up_off (by omega), f3.1 q (by omega) (by omega), up_off (by omega)]; exact nb2 q hq
            · rw [up_off (by decide), f3.1 109 (by decide) (by decide), up_off (by decide), f2.1 109 (by decide) (by decide), up_off (by decide), up_off (by decide), f1.1 109 (by decide) (by decide), up_at, if_neg hi]
            · rw [up_off (by decide), f3.1 110 (by decide) (by decide), up_off (by decide), f2.1 110 (by decide) (by decide), up_off (by decide), up_off (by decide), f1.1 110 (by decide) (by decide), up_off (by decide)]
            · rw [up_off (by decide), f3.1 111 (by decide) (by decide), up_off (by decide), f2.1 111 (by decide) (by decide), up_off (by decide), up_off (by decide), f1.1 111 (by decide) (by decide), up_off (by decide)]
            · rw [up_off (by decide), f3.1 109 (by decide) (by decide), up_off (by decide), f2.1 109 (by decide) (by decide), up_off (by decide), up_off (by decide), f1.1 109 (by decide) (by decide), up_at, if_pos rfl]
            · rw [up_off (by decide), e3, up_off (by decide), hlo i hi, up_off (by decide), up_off (by decide), e1, up_off (by decide)]
            · rw [up_off (by decide), e3, up_off (by decide)]; exact hrw i hi
            · rw [up_off (by decide), f3.1 113 (by decide) (by decide), up_off (by decide), f2.1 113 (by decide) (by decide), up_at, if_neg (by omega), up_off (by decide), f1.1 113 (by decide) (by decide), up_off (by decide)]
            · rw [up_off (by decide), f3.1 114 (by decide) (by decide), up_at, if_neg (by omega), f2.1 114 (by decide) (by decide), up_off (by decide), up_off (by decide), f1.1 114 (by decide) (by decide), up_off (by decide)]
            · rw [up_off (by decide), f3.1 113 (by decide) (by decide), up_off (by decide), f2.1 113 (by decide) (by decide), up_at, if_pos rfl]
            · rw [up_off (by decide), f3.1 114 (by decide) (by decide), up_at, if_pos rfl]
            · exact hG6.off fun j j6 _ => by rw [up_at, if_neg j6]
          · refine hbad 1 t' (Or.inr ⟨w, hkw, by omega, Or.inr (Or.inr ⟨hn, hlt, Or.inl ⟨by omega, _, hr, Or.inr ⟨t', C, rfl, Or.inl ⟨hk9, rfl⟩⟩⟩⟩)⟩) _ (fun q hq => by rw [up_off (by omega), f3.1 q (by omega) (by omega), up_off (by omega)]; exact nb2 q hq) (hB.off fun j j6 _ => by rw [up_at, if_neg j6])
    refine ⟨⟨by omega, by omega⟩, fun h => absurd h (by omega), fun _ => ⟨fun _ => ⟨fun h2 => ⟨⟨by omega, by omega⟩, fun hlt => ⟨by omega, by omega, ?_⟩, fun hge => f6 (fun x => by omega) (by omega)⟩, fun h2 => ⟨by omega, by omega, ?_, fun h0 => ⟨⟨by omega, by omega⟩, fun hlt => ⟨by omega, by omega, ?_⟩, fun hge => f6 (fun x => ?_) (by omega)⟩, fun h0 => ?_⟩⟩, fun h => absurd h (by omega)⟩⟩
    · refine cV_imp (step (fun x => by omega) (by omega)) fun g13 hs => ⟨hs.1, fun h => absurd h (by omega)⟩
    · have := (how w (by omega)).1; exact ⟨by omega, by omega⟩
    · exact step (fun x => by have := (how w (by omega)).2.mpr x.2; omega) (by omega)
    · have := (how w (by omega)).2.mpr x.2; omega
    · exact fl 4 (by decide) (Or.inr ⟨w, hkw, by omega, Or.inl ⟨by omega, (how w (by omega)).2.mp h0, rfl⟩⟩)
  · have hf := fl 1 (by decide) (Or.inl ⟨hin, rfl⟩)
    refine ⟨⟨by omega, by omega⟩, fun _ => hf, fun h0 => ⟨fun h1 => absurd ⟨by omega, by omega⟩ hin, fun _ => hf⟩⟩
end CM
