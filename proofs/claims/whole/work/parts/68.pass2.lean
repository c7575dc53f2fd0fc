-- a night of the reference, whole
theorem upR_up (a : Nat → Int) (j : Nat) (x y : Int) : upR (upR a j x) j y = upR a j y := by
  funext k
  unfold upR
  by_cases h : k = j
  · rw [if_pos h, if_pos h]
  · rw [if_neg h, if_neg h, if_neg h]
theorem upR_self (a : Nat → Int) (j : Nat) : upR a j (a j) = a := by
  funext k
  unfold upR
  by_cases h : k = j
  · rw [if_pos h, h]
  · rw [if_neg h]
theorem s_X12_give {d : Nat} {dd : List (Nat × Nat)} {sh : Nat → Nat → Nat} {g : Nat → Nat → Int} {K : (Nat → Nat → Int) → Prop} {g0 : Nat → Nat → Int} {a0 : Nat → Int} {w : Bool} {n c : Nat} {s : ST} (hX : RXt dd sh g0 a0 (g0 137)) (ht : -1 ≤ a0 3 ∧ a0 3 < a0 2) (h2 : 0 ≤ a0 2 ∧ a0 2 ≤ 4) (hn : a0 0 = n) (hc : c < 7) (hca : (c : Int) < a0 1) (b : BK a0 s.1) (hA : AB s.1) (h : PR g0 g s) (hw : g0 134 22 = (if w = true then 1 else 0)) (hK : ∀ g', PR g0 g' (gS w (g0 137) n c s) → K g') : cV (d + 6) m_X12_give [(vR 134), (vI (c : Int))] dd sh g K := by
  have s0 : s.1 0 = n := by rw [b 0 (by decide) (by decide) (by decide)]; exact hn
  have s1 : s.1 1 = a0 1 := b 1 (by decide) (by decide) (by decide)
  have en := hA.n
  refine mkV (ls := [some (vR 134), some (vI ((c : Int))), none, none]) rfl rfl rfl rfl rfl (r_X12_give_0 ?_)
  refine loop (P := fun p => ∀ g', PR g0 g' (foldN (g1 w (g0 137) c) s p) → rV (d + 5) m_X12_give 2 [some (vR 134), some (vI ((c : Int))), some (vI ((p : Int))), none] [] dd sh (g') K) (n := n) ?_ ?_ 0 (by omega) g h
  · intro g' hp
    have hb : BK a0 (foldN (g1 w (g0 137) c) s n).1 := gS_BK b
    refine r_X12_give_2 ?_
    rw [hp.2.2.1, hb 0 (by decide) (by decide) (by decide), hn]
    exact ⟨⟨by omega, by omega⟩, ⟨by omega, by omega⟩, fun _ => hK g' hp, fun h => absurd h (by omega)⟩
  · intro p hp ih g' hpr
    have hb : BK a0 (foldN (g1 w (g0 137) c) s p).1 := foldN_in (P := fun s => BK a0 s.1) (fun _ _ hs => g1_BK hs _) b p
    have hAp := gSp_AB (w := w) (T := g0 137) hA s0 hc (by omega) p (by omega)
    have hst : foldN (g1 w (g0 137) c) s (p + 1) = g1 w (g0 137) c (foldN (g1 w (g0 137) c) s p) p := rfl
    rw [hst] at ih
    generalize foldN (g1 w (g0 137) c) s p = σ at ih hb hAp hpr ⊢
    have e5 := hpr.2.2.1
    have e7 : g' 137 = g0 137 := hpr.1 137 (by decide) (by decide) (by decide) (by decide)
    have z0 : σ.1 0 = n := by rw [hb 0 (by decide) (by decide) (by decide)]; exact hn
    have z1 : σ.1 1 = a0 1 := hb 1 (by decide) (by decide) (by decide)
    have z3 : σ.1 3 = a0 3 := hb 3 (by decide) (by decide) (by decide)
    have hpp := hAp.pp p (by omega) (by omega)
    have hxx := hAp.x
    have htx : g' 135 3 < 0 ∨ (0 ≤ g' 135 3 ∧ g' 135 3 < 4 ∧ ∃ q, TextOk dd q g' (g' 137) (g' 135 3).toNat) := by
      rw [e5, z3, e7]
      by_cases h9 : a0 3 < 0
      · exact Or.inl h9
      · exact Or.inr ⟨by omega, by omega, sh 51 (a0 3).toNat, (hX (a0 3).toNat (by omega) (by omega)).fr fun q hq => hpr.1 q (by omega) (by omega) (by omega) (by omega)⟩
    have hti : i32 (g' 135 3) := by rw [e5, z3]; exact ⟨by omega, by omega⟩
    -- from the odds on
    have tail : ∀ gu, gu = σ.1 (16 + 7 * p) → σ.1 (20 + 7 * p) ≠ 0 → cI (d + 5) m_X12_oddsOf [(vR 134), (vI (g' 135 3)), (vI (p : Int)), (vI (c : Int)), (vI gu)] dd sh g' (fun r12 g13 => cI (d + 5) m_X12_drawn [(vR 134), (vI 10)] dd sh g13 (fun r14 g15 => (i32 r14) ∧ (i32 r12) ∧ ((r12 ≤ r14 → rV (d + 5) m_X12_give 2 [some (vR 134), some (vI ((c : Int))), some (vI ((p : Int) + 1)), none] [] dd sh g15 K) ∧ (r14 < r12 → cV (d + 5) m_X12_write [(vR 134), (vI (c : Int)), (vI (p : Int))] dd sh g15 (fun g20 => rV (d + 5) m_X12_give 2 [some (vR 134), some (vI ((c : Int))), some (vI ((p : Int) + 1)), none] [] dd sh g20 K))))) := by
      intro gu hgu hcm
      have hob := oddsA_b σ.1 (g0 137) (σ.1 3) p c (σ.1 (16 + 7 * p))
      refine s_X12_oddsOf (by rw [e5]; exact hAp) htx hti (by omega) (by rw [e5]; omega) hc (by rw [e5]; omega) ⟨by omega, by omega⟩ fun g2 f2 => ?_
      have hp2 := hpr.rf1 f2
      rw [e5, e7, hgu]
      refine s_X12_drawn (by rw [hp2.2.2.1]; exact hxx) ?_
      rw [hp2.2.2.1]
      have hp3 := hp2.up (j := 12) (v := dr (σ.1 12))
      refine ⟨⟨by omega, by omega⟩, ⟨by omega, by omega⟩, fun h9 => ?_, fun h9 => ?_⟩
      · rw [show g1 w (g0 137) c σ p = (upR σ.1 12 (dr (σ.1 12)), σ.2.1, σ.2.2) by unfold g1; rw [if_neg hcm, if_neg (by omega)]] at ih
        exact ih _ hp3
      · rw [show g1 w (g0 137) c σ p = (wrA w (upR σ.1 12 (dr (σ.1 12))) c p, σ.2.1 + 1, ior σ.2.2 ((1 : Int) * 2 ^ p)) by unfold g1; rw [if_neg hcm, if_pos (by omega)]] at ih
        exact s_X12_write (w := w) hAp.draw hp3 hw (by omega) fun g4 h4 => ih g4 h4
    refine r_X12_give_2 ?_
    rw [e5, z0]
    refine ⟨⟨by omega, by omega⟩, ⟨by omega, by omega⟩, fun h => absurd h (by omega), fun _ => s_get4 (by omega) ?_⟩
    rw [e5]
    refine ⟨⟨by omega, by omega⟩, fun h9 => s_get0 (by omega) ?_, fun h9 => ?_⟩
    · rw [e5]
      refine ⟨⟨by omega, by omega⟩, fun h8 => ?_, fun h8 => ?_⟩
      · have := tail 0 (by omega) h9
        rw [e5] at this
        exact this
      · have := tail 1 (by omega) h9
        rw [e5] at this
        exact this
    · rw [show g1 w (g0 137) c σ p = σ by unfold g1; rw [if_pos h9]] at ih
      exact ih g' hpr
theorem paysA_11 (a T : Nat → Int) (v : Int) {p : Nat} (hp : p < 6) : paysA (upR a 11 v) T p = paysA a T p := by
  have e : nmA (upR a 11 v) p 0 = nmA a p 0 := by
    funext j
    unfold nmA
    rw [upR_off (k := 10) (by omega), upR_off (k := 17 + 7 * p) (by omega), upR_off (k := 19 + 7 * p) (by omega), upR_off (k := 18 + 7 * p) (by omega), upR_off (k := 58 + 4 * 0) (by omega), upR_off (k := 59 + 4 * 0) (by omega)]
  unfold paysA
  rw [e, upR_off (k := 3) (by omega), upR_off (k := 18 + 7 * p) (by omega)]
theorem s_X12_pass {d : Nat} {dd : List (Nat × Nat)} {sh : Nat → Nat → Nat} {g : Nat → Nat → Int} {K : (Nat → Nat → Int) → Prop} {g0 : Nat → Nat → Int} {a0 : Nat → Int} {w : Bool} {n m : Nat} {s : ST} (hX : RXt dd sh g0 a0 (g0 137)) (ht : -1 ≤ a0 3 ∧ a0 3 < a0 2) (h2 : 0 ≤ a0 2 ∧ a0 2 ≤ 4) (hn : a0 0 = n) (hm : a0 1 = m) (b : BK a0 s.1) (hA : AB s.1) (h : PR g0 g s) (hw : g0 134 22 = (if w = true then 1 else 0)) (hK : ∀ g', PR g0 g' (paS w (g0 137) n m s) → K g') : cV (d + 7) m_X12_pass [(vR 134)] dd sh g K := by
  have s0 : s.1 0 = n := by rw [b 0 (by decide) (by decide) (by decide)]; exact hn
  have s1 : s.1 1 = m := by rw [b 1 (by decide) (by decide) (by decide)]; exact hm
  have en := hA.n
  have em := hA.m
  refine mkV (ls := [some (vR 134), none, none]) rfl rfl rfl rfl rfl (r_X12_pass_0 ?_)
  refine loop (P := fun k => ∀ g', PR g0 g' (foldN (gT w (g0 137) n) s k) → rV (d + 6) m_X12_pass 2 [some (vR 134), some (vI ((k : Int))), none] [] dd sh (g') K) (n := m) ?_ ?_ 0 (by omega) g h
  · intro g1' hp1
    have hb : BK a0 (foldN (gT w (g0 137) n) s m).1 := gA_BK b m
    have hAm := gA_AB (w := w) (T := g0 137) hA s0 m (by omega)
    have hK' := hK
    unfold paS gA at hK'
    generalize foldN (gT w (g0 137) n) s m = σ at hp1 hb hAm hK'
    have z0 : σ.1 0 = n := by rw [hb 0 (by decide) (by decide) (by decide)]; exact hn
    have z1 : σ.1 1 = m := by rw [hb 1 (by decide) (by decide) (by decide)]; exact hm
    have z3 : σ.1 3 = a0 3 := hb 3 (by decide) (by decide) (by decide)
    have htk := hAm.tak
    refine r_X12_pass_2 ?_
    rw [hp1.2.2.1, z1]
    refine ⟨⟨by omega, by omega⟩, ⟨by omega, by omega⟩, fun _ => ?_, fun h => absurd h (by omega)⟩
    refine loop (P := fun k => ∀ g', PR g0 g' (tkA (g0 137) k σ.1, σ.2) → rV (d + 6) m_X12_pass 52 [some (vR 134), some (vI ((k : Int))), none] [] dd sh (g') K) (n := n) ?_ ?_ 0 (by omega) g1' ?_
    · intro g2 hp2
      have tkl : ∀ k, k ≠ 11 → tkA (g0 137) n σ.1 k = σ.1 k := fun k hk => upR_off hk
      generalize tkA (g0 137) n σ.1 = a3 at hp2 hK' tkl
      refine r_X12_pass_52 ?_
      have e5 : g2 135 = a3 := hp2.2.2.1
      rw [e5, tkl 0 (by decide), z0]
      refine ⟨⟨by omega, by omega⟩, ⟨by omega, by omega⟩, fun _ => ?_, fun h => absurd h (by omega)⟩
      refine loop (P := fun k => ∀ g', PR g0 g' (hbA a3 k, σ.2) → rV (d + 6) m_X12_pass 110 [some (vR 134), some (vI ((k : Int))), none] [] dd sh (g') K) (n := n) ?_ ?_ 0 (by omega) g2 hp2
      · intro g3 hp3
        refine r_X12_pass_110 ?_
        have e5 : g3 135 = hbA a3 n := hp3.2.2.1
        rw [e5, hbA_off n (fun p hp => by omega), tkl 0 (by decide), z0]
        refine ⟨⟨by omega, by omega⟩, ⟨by omega, by omega⟩, fun _ => ?_, fun h => absurd h (by omega)⟩
        have q1 : hbA a3 n 1 = m := by rw [hbA_off n (fun p hp => by omega), tkl 1 (by decide)]; exact z1
        refine loop (P := fun k => ∀ g', PR g0 g' (ecA (hbA a3 n) k, σ.2) → rV (d + 6) m_X12_pass 159 [some (vR 134), some (vI ((k : Int))), none] [] dd sh (g') K) (n := m) ?_ ?_ 0 (by omega) g3 hp3
        · intro g4 hp4
          refine r_X12_pass_159 ?_
          have e5 : g4 135 = ecA (hbA a3 n) m := hp4.2.2.1
          rw [e5, ecA_off (k := 1) m (fun c hc => by omega), q1]
          exact ⟨⟨by omega, by omega⟩, ⟨by omega, by omega⟩, fun _ => hK' _ hp4.up, fun h => absurd h (by omega)⟩
        · intro k hk ih g4 hp4
          refine r_X12_pass_159 ?_
          have e5 : g4 135 = ecA (hbA a3 n) k := hp4.2.2.1
          rw [e5, ecA_off (k := 1) k (fun c hc => by omega), q1]
          exact ⟨⟨by omega, by omega⟩, ⟨by omega, by omega⟩, fun h => absurd h (by omega), fun _ => s_lay3 (by omega) (ih _ hp4.up)⟩
      · intro k hk ih g3 hp3
        have hpp := hAm.pp k (by omega) (by omega)
        have w20 : hbA a3 k (20 + 7 * k) = σ.1 (20 + 7 * k) := by rw [hbA_off k (fun p hp => by omega), tkl _ (by omega)]
        have w19 : hbA a3 k (19 + 7 * k) = σ.1 (19 + 7 * k) := by rw [hbA_off k (fun p hp => by omega), tkl _ (by omega)]
        have hst : hbA a3 (k + 1) = if hbA a3 k (20 + 7 * k) = 1 then upR (hbA a3 k) (19 + 7 * k) (min (max (hbA a3 k (19 + 7 * k) + 1) 0) 9) else hbA a3 k := rfl
        have e5 : g3 135 = hbA a3 k := hp3.2.2.1
        refine r_X12_pass_110 ?_
        rw [e5, hbA_off k (fun p hp => by omega), tkl 0 (by decide), z0]
        refine ⟨⟨by omega, by omega⟩, ⟨by omega, by omega⟩, fun h => absurd h (by omega), fun _ => s_get4 (by omega) ?_⟩
        rw [e5, w20]
        refine ⟨⟨by omega, by omega⟩, fun h9 => ?_, fun h9 => s_get3 (by omega) ?_⟩
        · rw [hst, if_neg (by rw [w20]; exact h9)] at ih
          exact ih g3 hp3
        · rw [hst, if_pos (by rw [w20]; exact h9)] at ih
          rw [e5]
          refine ⟨⟨by omega, by omega⟩, s_X12_bounded ⟨by omega, by omega⟩ ⟨by decide, by decide⟩ ⟨by decide, by decide⟩ (by decide) fun r er => s_put3 (by omega) ?_⟩
          rw [er]
          exact ih _ hp3.up
    · intro k hk ih g2 hp2
      have hpp := hAm.pp k (by omega) (by omega)
      have hpb := paysA_b hAm (g0 137) (p := k) (by omega) (by omega)
      have hsm := sm_bound (f := paF σ.1 (g0 137)) (n := k) (B := 999) fun j hj => paF_b hAm _ (by omega) (by omega)
      have e5 : g2 135 = tkA (g0 137) k σ.1 := hp2.2.2.1
      have e7 : g2 137 = g0 137 := hp2.1 137 (by decide) (by decide) (by decide) (by decide)
      have v0 : tkA (g0 137) k σ.1 0 = n := by unfold tkA; rw [upR_off (by decide)]; exact z0
      have v3 : tkA (g0 137) k σ.1 3 = a0 3 := by unfold tkA; rw [upR_off (by decide)]; exact z3
      have v20 : tkA (g0 137) k σ.1 (20 + 7 * k) = σ.1 (20 + 7 * k) := by unfold tkA; rw [upR_off (by omega)]
      have v11 : tkA (g0 137) k σ.1 11 = min (σ.1 11 + sm (paF σ.1 (g0 137)) k) 99999999 := by unfold tkA; rw [upR_at]
      have hAk : AB (tkA (g0 137) k σ.1) := hAm.one (Or.inl ⟨rfl, by omega, by omega⟩)
      refine r_X12_pass_52 ?_
      rw [e5, v0]
      refine ⟨⟨by omega, by omega⟩, ⟨by omega, by omega⟩, fun h => absurd h (by omega), fun _ => s_get4 (by omega) ?_⟩
      rw [e5, v20]
      refine ⟨⟨by omega, by omega⟩, fun h9 => ?_, fun h9 => ?_⟩
      · have hx : paF σ.1 (g0 137) k = paysA σ.1 (g0 137) k := by unfold paF; rw [if_pos (by omega)]
        refine s_X12_paysOf (by rw [e5]; exact hAk) ?_ (by rw [e5, v3]; exact ⟨by omega, by omega⟩) (by omega) (by rw [e5, v0]; omega) fun g3 f3 => ?_
        · rw [e5, v3, e7]
          by_cases h9 : a0 3 < 0
          · exact Or.inl h9
          · exact Or.inr ⟨by omega, by omega, sh 51 (a0 3).toNat, (hX (a0 3).toNat (by omega) (by omega)).fr fun q hq => hp2.1 q (by omega) (by omega) (by omega) (by omega)⟩
        · rw [e5, e7, v11, show paysA (tkA (g0 137) k σ.1) (g0 137) k = paysA σ.1 (g0 137) k from paysA_11 _ _ _ (by omega)]
          refine ⟨⟨by omega, by omega⟩, s_X12_bounded ⟨by omega, by omega⟩ ⟨by decide, by decide⟩ ⟨by decide, by decide⟩ (by decide) fun r er => ?_⟩
          have hp3 := (hp2.rf1 f3).up (j := 11) (v := r)
          refine ih _ ?_
          have et : tkA (g0 137) (k + 1) σ.1 = upR (tkA (g0 137) k σ.1) 11 r := by
            unfold tkA
            rw [upR_up]
            congr 1
            show min (σ.1 11 + (sm (paF σ.1 (g0 137)) k + paF σ.1 (g0 137) k)) 99999999 = r
            omega
          rw [et]
          exact hp3
      · have hx : paF σ.1 (g0 137) k = 0 := by unfold paF; rw [if_neg (by omega)]
        refine ih g2 ?_
        have et : tkA (g0 137) (k + 1) σ.1 = tkA (g0 137) k σ.1 := by
          unfold tkA
          congr 1
          show min (σ.1 11 + (sm (paF σ.1 (g0 137)) k + paF σ.1 (g0 137) k)) 99999999 = _
          rw [hx, Int.add_zero]
        rw [et]
        exact hp2
    · have et : tkA (g0 137) 0 σ.1 = σ.1 := by
        unfold tkA
        rw [show min (σ.1 11 + sm (paF σ.1 (g0 137)) 0) 99999999 = σ.1 11 by show min (σ.1 11 + 0) 99999999 = σ.1 11; omega]
        exact upR_self _ _
      rw [et]
      exact hp1
  · intro k hk ih g' hpr
    have hb : BK a0 (foldN (gT w (g0 137) n) s k).1 := gA_BK b k
    have hAk := gA_AB (w := w) (T := g0 137) hA s0 k (by omega)
    have hst : foldN (gT w (g0 137) n) s (k + 1) = foldN (fun s _ => gS w (g0 137) n k s) (foldN (gT w (g0 137) n) s k) (tgA (foldN (gT w (g0 137) n) s k).1 k) := rfl
    rw [hst] at ih
    generalize foldN (gT w (g0 137) n) s k = σ at ih hb hAk hpr
    have z0 : σ.1 0 = n := by rw [hb 0 (by decide) (by decide) (by decide)]; exact hn
    have z1 : σ.1 1 = m := by rw [hb 1 (by decide) (by decide) (by decide)]; exact hm
    have hcc := hAk.cc k (by omega) (by omega)
    have hf : ∀ (g' : Nat → Nat → Int) (j : Nat), PR g0 g' (foldN (fun s _ => gS w (g0 137) n k s) σ j) → g' 135 (60 + 4 * k) = σ.1 (60 + 4 * k) ∧ g' 135 (61 + 4 * k) = σ.1 (61 + 4 * k) := fun g' j hp => by
      have hbj : BK σ.1 (foldN (fun s _ => gS w (g0 137) n k s) σ j).1 := gTt_BK (fun _ _ _ _ => rfl) j
      rw [hp.2.2.1]
      exact ⟨hbj _ (by omega) (by omega) (by omega), hbj _ (by omega) (by omega) (by omega)⟩
    refine r_X12_pass_2 ?_
    rw [hpr.2.2.1, z1]
    refine ⟨⟨by omega, by omega⟩, ⟨by omega, by omega⟩, fun h => absurd h (by omega), fun _ => ?_⟩
    -- one giving more
    have step : ∀ j : Nat, j ≤ 2 → σ.1 (60 + 4 * k) = 0 → (j : Int) ≤ σ.1 (61 + 4 * k) → (∀ g', PR g0 g' (foldN (fun s _ => gS w (g0 137) n k s) σ (j + 1)) → rV (d + 6) m_X12_pass 14 [some (vR 134), some (vI ((k : Int))), some (vI (((j + 1 : Nat) : Int)))] [] dd sh (g') K) → ∀ g', PR g0 g' (foldN (fun s _ => gS w (g0 137) n k s) σ j) → rV (d + 6) m_X12_pass 14 [some (vR 134), some (vI ((k : Int))), some (vI (((j : Nat) : Int)))] [] dd sh (g') K := by
      intro j hj hc0 hje hnext g' hp
      obtain ⟨f2, f3⟩ := hf g' j hp
      refine r_X12_pass_14 (s_of3 (by omega) ?_)
      rw [f3]
      refine ⟨⟨by omega, by omega⟩, ⟨by omega, by omega⟩, fun h => absurd h (by omega), fun _ => s_of2 (by omega) ?_⟩
      rw [f2]
      refine ⟨⟨by omega, by omega⟩, fun h => absurd hc0 h, fun _ => ?_⟩
      have hbj : BK a0 (foldN (fun s _ => gS w (g0 137) n k s) σ j).1 := gTt_BK hb j
      exact s_X12_give hX ht h2 hn (by omega) (by omega) hbj (gTt_AB hAk z0 (by omega) (by omega) j) hp hw fun g2 hp2 => hnext g2 hp2
    have stop : ∀ j : Nat, j ≤ 2 → (σ.1 (60 + 4 * k) ≠ 0 ∨ σ.1 (61 + 4 * k) < j) → j = tgA σ.1 k → ∀ g', PR g0 g' (foldN (fun s _ => gS w (g0 137) n k s) σ j) → rV (d + 6) m_X12_pass 14 [some (vR 134), some (vI ((k : Int))), some (vI (((j : Nat) : Int)))] [] dd sh (g') K := by
      intro j hj hc0 hjt g' hp
      obtain ⟨f2, f3⟩ := hf g' j hp
      rw [hjt] at hp
      refine r_X12_pass_14 (s_of3 (by omega) ?_)
      rw [f3]
      refine ⟨⟨by omega, by omega⟩, ⟨by omega, by omega⟩, fun h => ih g' hp, fun h => s_of2 (by omega) ?_⟩
      rw [f2]
      exact ⟨⟨by omega, by omega⟩, fun h => ih g' hp, fun h => absurd h (by omega)⟩
    by_cases hcut : σ.1 (60 + 4 * k) = 0
    · have hc2 : σ.1 (61 + 4 * k) = 0 ∨ σ.1 (61 + 4 * k) = 1 := by omega
      rcases hc2 with h9 | h9
      · exact step 0 (by decide) hcut (by omega) (stop 1 (by decide) (Or.inr (by omega)) (by unfold tgA; rw [if_pos hcut]; omega)) g' hpr
      · exact step 0 (by decide) hcut (by omega) (step 1 (by decide) hcut (by omega) (stop 2 (by decide) (Or.inr (by omega)) (by unfold tgA; rw [if_pos hcut]; omega))) g' hpr
    · exact stop 0 (by decide) (Or.inl hcut) (by unfold tgA; rw [if_neg hcut]) g' hpr
