-- a night of the stage
def NF (g g' : Nat → Nat → Int) : Prop := ∀ q, q ≠ 3 → q ≠ 7 → q ≠ 10 → (q < 116 ∨ 119 < q) → g' q = g q
theorem NF.rf {g : Nat → Nat → Int} : NF g g := fun _ _ _ _ _ => rfl
theorem NF.tr {g g' g'' : Nat → Nat → Int} (h : NF g g') (h' : NF g' g'') : NF g g'' := fun q h1 h2 h3 h4 => by rw [h' q h1 h2 h3 h4, h q h1 h2 h3 h4]
theorem LF1.nf {g g' : Nat → Nat → Int} (h : LF1 g g') : NF g g' := fun q _ _ _ h4 => h q (by omega) (by omega)
theorem rsR {g g' : Nat → Nat → Int} {a : Nat → Int} (h : RSc g a) (e : ∀ q, 3 ≤ q → q ≤ 10 → g' q = g q) : RSc g' a := by
  unfold RSc
  rw [e 3 (by decide) (by decide), e 4 (by decide) (by decide), e 5 (by decide) (by decide), e 6 (by decide) (by decide), e 7 (by decide) (by decide), e 8 (by decide) (by decide), e 9 (by decide) (by decide), e 10 (by decide) (by decide)]; exact h
/-- all but the drawn number and the book -/
def BK (a b : Nat → Int) : Prop := ∀ k, k < 2524 → k ≠ 12 → k ≠ 13 → b k = a k
theorem wrA_low (w : Bool) (a : Nat → Int) (c p : Nat) {k : Nat} (h : k < 2524) (h13 : k ≠ 13) : wrA w a c p k = a k := by
  unfold wrA
  split
  · split
    · show (if k = 2563 then _ else if 2524 ≤ k ∧ k < 2563 then _ else a k) = a k
      rw [if_neg (by omega), if_neg (by omega)]
    · rw [upR_off h13, upR_off (by omega)]
  · rfl
theorem g1_BK {w : Bool} {T a : Nat → Int} {c : Nat} {s : ST} (h : BK a s.1) (p : Nat) : BK a (g1 w T c s p).1 := by
  unfold g1
  split
  · exact h
  · split
    · intro k h1 h2 h3
      show wrA w (upR s.1 12 (dr (s.1 12))) c p k = a k
      rw [wrA_low _ _ _ _ h1 h3, upR_off h2]; exact h k h1 h2 h3
    · intro k h1 h2 h3
      show upR s.1 12 (dr (s.1 12)) k = a k
      rw [upR_off h2]; exact h k h1 h2 h3
theorem foldN_in {P : ST → Prop} {f : ST → Nat → ST} (hf : ∀ s k, P s → P (f s k)) {s : ST} (h : P s) : ∀ n, P (foldN f s n) := by
  intro n
  induction n with
  | zero => exact h
  | succ n ih => exact hf _ _ ih
theorem gS_BK {w : Bool} {T a : Nat → Int} {n c : Nat} {s : ST} (h : BK a s.1) : BK a (gS w T n c s).1 := foldN_in (P := fun s => BK a s.1) (fun _ _ hs => g1_BK hs _) h n
theorem gTt_BK {w : Bool} {T a : Nat → Int} {n c : Nat} {s : ST} (h : BK a s.1) (t : Nat) : BK a (foldN (fun s _ => gS w T n c s) s t).1 := foldN_in (P := fun s => BK a s.1) (fun _ _ hs => gS_BK hs) h t
theorem gA_BK {w : Bool} {T a : Nat → Int} {n : Nat} {s : ST} (h : BK a s.1) (m : Nat) : BK a (foldN (gT w T n) s m).1 := foldN_in (P := fun s => BK a s.1) (fun _ _ hs => gTt_BK hs _) h m
theorem nmA_BK {a b : Nat → Int} (h : BK a b) {p c : Nat} (hp : p < 6) (hc : c < 7) : nmA b p c = nmA a p c := by
  funext j
  unfold nmA
  rw [h 10 (by omega) (by omega) (by omega), h (17 + 7 * p) (by omega) (by omega) (by omega), h (19 + 7 * p) (by omega) (by omega) (by omega), h (18 + 7 * p) (by omega) (by omega) (by omega), h (58 + 4 * c) (by omega) (by omega) (by omega), h (59 + 4 * c) (by omega) (by omega) (by omega)]
theorem oddsA_BK {a b T : Nat → Int} (h : BK a b) {t : Int} {p c : Nat} {gu : Int} (hp : p < 6) (hc : c < 7) : oddsA b T t p c gu = oddsA a T t p c gu := by
  unfold oddsA
  rw [nmA_BK h hp hc, h (19 + 7 * p) (by omega) (by omega) (by omega), h (58 + 4 * c) (by omega) (by omega) (by omega)]
theorem Inv.txAt' {dd : List (Nat × Nat)} {sh : Nat → Nat → Nat} {g : Nat → Nat → Int} {a : Nat → Int} (h2 : 0 ≤ a 2 ∧ a 2 ≤ 4) (hx : RXt dd sh g a (g 137)) {t : Int} (ht : -1 ≤ t ∧ t < a 2) : (t = -1 ∧ TxAt dd g 0 t) ∨ (0 ≤ t ∧ TxAt dd g (sh 51 t.toNat) t) := by
  by_cases h0 : t < 0
  · exact Or.inl ⟨by omega, Or.inl ⟨h0, rfl⟩⟩
  · have hT := hx t.toNat (by omega) (by omega)
    refine Or.inr ⟨by omega, Or.inr ⟨by omega, by omega, ?_, hT⟩⟩
    obtain ⟨j, n, c, h1, h2, _⟩ := hT
    omega
theorem s_X7_draw {d : Nat} {dd : List (Nat × Nat)} {sh : Nat → Nat → Nat} {g : Nat → Nat → Int} {K : Int → (Nat → Nat → Int) → Prop} (hx : 0 ≤ g 3 14 ∧ g 3 14 ≤ 30402) (hK : K (g 3 14) (up g 3 14 (dr (g 3 14)))) : cI (d + 1) m_X7_draw [(vR 3)] dd sh g K := by
  refine mkI (ls := [some (vR 3), none]) rfl rfl rfl rfl rfl (r_X7_draw_0 ?_)
  rw [Int.tmod_eq_emod_of_nonneg (by omega)]
  exact ⟨⟨by omega, by omega⟩, hK⟩
theorem s_X7_writeSign {d : Nat} {dd : List (Nat × Nat)} {sh : Nat → Nat → Nat} {g : Nat → Nat → Int} {K : (Nat → Nat → Int) → Prop} {p c : Nat} {a : Nat → Int} (hS : RSc g a) (hp : p < 6) (hpa : (p : Int) < a 0) (hc : c < 7) (hca : (c : Int) < a 1) (hK : ∀ g', (∀ q, q ≠ 3 → q ≠ 10 → g' q = g q) → RSc g' (wrA true a c p) → K g') : cV (d + 2) m_X7_writeSign [(vR 3), (vI (p : Int)), (vI (c : Int))] dd sh g K := by
  have hw := hS.wr
  have hel := hS.el
  refine mkV (ls := [some (vR 3), some (vI ((p : Int))), some (vI ((c : Int))), none]) rfl rfl rfl rfl rfl (r_X7_writeSign_0 ?_)
  refine s_J9_floorMod (by omega) (by omega) (Or.inl rfl) fun r h1 h2 h3 => ⟨h2, h3, ⟨by omega, by omega⟩, fun h => ⟨⟨by omega, by omega⟩, ?_⟩, fun h => ?_⟩
  · rw [Int.tmod_eq_emod_of_nonneg (by omega)]
    refine hK _ (fun q h6 h7 => by rw [up_off h6, up_off h7]) ?_
    refine RS.write (s := g 3) (bk := g 10) (z := r) hS hp hpa hc hca h1 (fun k hk1 hk2 => by rw [up_at, if_neg hk1, up_off (by decide)]) (fun _ => ⟨?_, ?_⟩) (fun h9 => absurd (by omega) h9) (fun k hk => ?_) ?_
    · rw [up_at, if_pos rfl]
    · rw [up_at, if_neg (by decide), up_off (by decide)]
    · rw [up_off (q := 10) (by decide), up_at, if_neg hk]
    · rw [up_off (q := 10) (by decide), up_at, if_pos rfl]
  · refine hK _ (fun q h6 h7 => by rw [up_off h6, up_off h7]) ?_
    refine RS.write (s := g 3) (bk := g 10) (z := r) hS hp hpa hc hca h1 (fun k hk1 hk2 => by rw [up_at, if_neg hk2, up_off (by decide)]) (fun h9 => absurd h9 (by omega)) (fun _ => ⟨?_, ?_⟩) (fun k hk => ?_) ?_
    · rw [up_at, if_neg (by decide), up_off (by decide)]
    · rw [up_at, if_pos rfl]
    · rw [up_off (q := 10) (by decide), up_at, if_neg hk]
    · rw [up_off (q := 10) (by decide), up_at, if_pos rfl]
theorem s_X5_giveScene {d : Nat} {dd : List (Nat × Nat)} {sh : Nat → Nat → Nat} {g : Nat → Nat → Int} {K : Int → (Nat → Nat → Int) → Prop} {g0 : Nat → Nat → Int} {a0 : Nat → Int} {n c times : Nat} {s : ST} (hH : RHc g0 a0) (hX : RXt dd sh g0 a0 (g0 137)) (hn : a0 0 = n) (hc : c < 7) (hca : (c : Int) < a0 1) (ht : times ≤ 2) (f : NF g0 g) (b : BK a0 s.1) (hS : RSc g s.1) (hb : g 118 5 = s.2.2)
    (hK : ∀ g', NF g0 g' → RSc g' (foldN (fun s _ => gS true (g0 137) n c s) s times).1 → g' 118 5 = (foldN (fun s _ => gS true (g0 137) n c s) s times).2.2 → K ((foldN (fun s _ => gS true (g0 137) n c s) s times).2.1 - s.2.1) g') : cI (d + 4) m_X5_giveScene [(vR 118), (vI (c : Int)), (vI (times : Int))] dd sh g K := by
  have htx := hH.tx
  have hru := hH.ru
  have en := hS.n
  have em := hS.m
  have e0 : s.1 0 = n := by rw [b 0 (by decide) (by decide) (by decide)]; exact hn
  have e1 : s.1 1 = a0 1 := b 1 (by decide) (by decide) (by decide)
  have e2 : g 2 = g0 2 := f 2 (by decide) (by decide) (by decide) (by decide)
  have hod : ∀ p, oddsA a0 (g0 137) (a0 3) p c (a0 (16 + 7 * p)) ≤ 10 ∧ 0 ≤ oddsA a0 (g0 137) (a0 3) p c (a0 (16 + 7 * p)) := fun p => (oddsA_b _ _ _ _ _ _).symm
  -- the rounds
  have ph2 : ∀ gc : Nat → Nat → Int, NF g0 gc → RSc gc s.1 → gc 118 5 = s.2.2 → (∀ p, p < n → s.1 (20 + 7 * p) ≠ 0 → 0 < times → gc 119 p = oddsA a0 (g0 137) (a0 3) p c (a0 (16 + 7 * p))) →
      rI (d + 3) m_X5_giveScene 85 [some (vR 118), some (vI ((c : Int))), some (vI ((times : Int))), none, some (vI 0), some (vI 0), none] [] dd sh gc K := by
    intro gc fc hSc hbc hch
    have hgo : ∀ U, U = (foldN (fun s _ => gS true (g0 137) n c s) s 0).2.1 - s.2.1 → rI (d + 3) m_X5_giveScene 85 [some (vR 118), some (vI ((c : Int))), some (vI ((times : Int))), none, some (vI U), some (vI 0), none] [] dd sh gc K := by
      intro U hU
      rw [hU]
      refine loop (P := fun k => ∀ g', NF g0 g' → RSc g' (foldN (fun s _ => gS true (g0 137) n c s) s k).1 → g' 118 5 = (foldN (fun s _ => gS true (g0 137) n c s) s k).2.2 → g' 119 = gc 119 → rI (d + 3) m_X5_giveScene 85 [some (vR 118), some (vI ((c : Int))), some (vI ((times : Int))), none, some (vI ((foldN (fun s _ => gS true (g0 137) n c s) s k).2.1 - s.2.1)), some (vI ((k : Int))), none] [] dd sh (g') K) (n := times) ?_ ?_ 0 (by omega) gc fc hSc hbc rfl
      · intro g' fg hSg hbg _
        exact r_X5_giveScene_85 ⟨⟨by omega, by omega⟩, ⟨by omega, by omega⟩, fun _ => hK g' fg hSg hbg, fun h => absurd h (by omega)⟩
      · intro k hk ih g' fg hSg hbg hcg
        refine r_X5_giveScene_85 ⟨⟨by omega, by omega⟩, ⟨by omega, by omega⟩, fun h => absurd h (by omega), fun _ => ?_⟩
        have hbk : BK a0 (foldN (fun s _ => gS true (g0 137) n c s) s k).1 := gTt_BK b k
        generalize hs2 : foldN (fun s _ => gS true (g0 137) n c s) s k = s2 at ih hSg hbg hbk ⊢
        have ih' : ∀ g', NF g0 g' → RSc g' (gS true (g0 137) n c s2).1 → g' 118 5 = (gS true (g0 137) n c s2).2.2 → g' 119 = gc 119 → rI (d + 3) m_X5_giveScene 85 [some (vR 118), some (vI ((c : Int))), some (vI ((times : Int))), none, some (vI ((gS true (g0 137) n c s2).2.1 - s.2.1)), some (vI (((k + 1 : Nat) : Int))), none] [] dd sh (g') K := by
          have e9 : foldN (fun s _ => gS true (g0 137) n c s) s (k + 1) = gS true (g0 137) n c s2 := by rw [← hs2]; rfl
          rw [e9] at ih
          exact ih
        refine loop (P := fun p => ∀ g', NF g0 g' → RSc g' (foldN (g1 true (g0 137) c) s2 p).1 → g' 118 5 = (foldN (g1 true (g0 137) c) s2 p).2.2 → g' 119 = gc 119 → rI (d + 3) m_X5_giveScene 94 [some (vR 118), some (vI ((c : Int))), some (vI ((times : Int))), none, some (vI ((foldN (g1 true (g0 137) c) s2 p).2.1 - s.2.1)), some (vI ((k : Int))), some (vI ((p : Int)))] [] dd sh (g') K) (n := n) ?_ ?_ 0 (by omega) g' fg hSg hbg hcg
        · intro g' fg hSg hbg hcg
          have eb : BK a0 (foldN (g1 true (g0 137) c) s2 n).1 := gS_BK hbk
          have e30 : g' 3 0 = n := by rw [hSg.n.1, eb 0 (by decide) (by decide) (by decide), hn]
          refine r_X5_giveScene_94 ?_
          rw [e30]
          exact ⟨⟨by omega, by omega⟩, ⟨by omega, by omega⟩, fun _ => ih' g' fg hSg hbg hcg, fun h => absurd h (by omega)⟩
        · intro p hp ih2 g' fg hSg hbg hcg
          have hbp : BK a0 (foldN (g1 true (g0 137) c) s2 p).1 := foldN_in (P := fun s => BK a0 s.1) (fun _ _ hs => g1_BK hs _) hbk p
          have hst : foldN (g1 true (g0 137) c) s2 (p + 1) = g1 true (g0 137) c (foldN (g1 true (g0 137) c) s2 p) p := rfl
          rw [hst] at ih2
          generalize foldN (g1 true (g0 137) c) s2 p = s3 at ih2 hSg hbg hbp ⊢
          have e30 : g' 3 0 = n := by rw [hSg.n.1, hbp 0 (by decide) (by decide) (by decide), hn]
          have e20 : s3.1 (20 + 7 * p) = s.1 (20 + 7 * p) := by rw [hbp _ (by omega) (by omega) (by omega), b _ (by omega) (by omega) (by omega)]
          have hodp := hod p
          have ho3 : oddsA s3.1 (g0 137) (s3.1 3) p c (s3.1 (16 + 7 * p)) = oddsA a0 (g0 137) (a0 3) p c (a0 (16 + 7 * p)) := by
            rw [oddsA_BK hbp (by omega) hc, hbp 3 (by decide) (by decide) (by decide), hbp (16 + 7 * p) (by omega) (by omega) (by omega)]
          have e31 : s3.1 1 = a0 1 := hbp 1 (by decide) (by decide) (by decide)
          have e3n : s3.1 0 = n := by rw [hbp 0 (by decide) (by decide) (by decide), hn]
          refine r_X5_giveScene_94 ?_
          rw [e30]
          refine ⟨⟨by omega, by omega⟩, ⟨by omega, by omega⟩, fun h => absurd h (by omega), fun _ => ?_⟩
          refine s_X7_comes hSg (p := p) (by omega) (by omega) fun r er r0 r1 => ⟨⟨by omega, by omega⟩, fun h => ?_, fun h => ?_⟩
          · rw [show g1 true (g0 137) c s3 p = s3 by unfold g1; rw [if_pos (by omega)]] at ih2
            exact ih2 g' fg hSg hbg hcg
          · have hx := hSg.x
            have hch' := hch p hp (by omega) (by omega)
            refine s_X7_draw (by omega) ⟨⟨by omega, by omega⟩, by omega, by omega, ⟨?_, ?_⟩, ⟨?_, ?_⟩, ?_⟩
            · rw [Int.tmod_eq_emod_of_nonneg (by omega)]; omega
            · rw [Int.tmod_eq_emod_of_nonneg (by omega)]; omega
            · rw [up_off (by decide), hcg, show ((p : Int)).toNat = p from rfl, hch']; omega
            · rw [up_off (by decide), hcg, show ((p : Int)).toNat = p from rfl, hch']; omega
            · rw [up_off (show (119 : Nat) ≠ 3 by decide), hcg, show ((p : Int)).toNat = p from rfl, hch', Int.tmod_eq_emod_of_nonneg (by omega), hx.1]
              have hSd : RSc (up g' 3 14 (dr (s3.1 12))) (upR s3.1 12 (dr (s3.1 12))) := RS.draw (s := g' 3) hSg (fun k hk => by rw [up_at, if_neg hk]) (by rw [up_at, if_pos rfl])
              have fd : NF g0 (up g' 3 14 (dr (s3.1 12))) := fun q h1 h2 h3 h4 => by rw [up_off h1]; exact fg q h1 h2 h3 h4
              refine ⟨fun h9 => ?_, fun h9 => ?_⟩
              · rw [show g1 true (g0 137) c s3 p = (upR s3.1 12 (dr (s3.1 12)), s3.2.1, s3.2.2) by unfold g1; rw [if_neg (by omega), if_neg (by rw [ho3]; omega)]] at ih2
                exact ih2 _ fd hSd (by rw [up_off (by decide)]; exact hbg) (by rw [up_off (by decide)]; exact hcg)
              · refine s_X7_writeSign hSd (p := p) (c := c) (by omega) (by rw [upR_off (by decide)]; omega) hc (by rw [upR_off (by decide)]; omega) fun g2 f2 hS2 => ⟨by omega, ?_⟩
                rw [show g1 true (g0 137) c s3 p = (wrA true (upR s3.1 12 (dr (s3.1 12))) c p, s3.2.1 + 1, ior s3.2.2 ((1 : Int) * 2 ^ p)) by unfold g1; rw [if_neg (by omega), if_pos (by rw [ho3]; omega)]] at ih2
                have e118 : g2 118 5 = s3.2.2 := by rw [f2 118 (by decide) (by decide), up_off (by decide)]; exact hbg
                rw [e118, show s3.2.1 - s.2.1 + 1 = s3.2.1 + 1 - s.2.1 by omega]
                refine ih2 _ (fun q h1 h2 h3 h4 => ?_) (rsR hS2 fun q h1 h2 => up_off (by omega)) (by rw [up_at, if_pos rfl]) (by rw [up_off (by decide), f2 119 (by decide) (by decide), up_off (by decide)]; exact hcg)
                rw [up_off (by omega), f2 q h1 h3]; exact fd q h1 h2 h3 h4
    exact hgo _ (by show (0 : Int) = s.2.1 - s.2.1; omega)
  refine mkI (ls := [some (vR 118), some (vI (c : Int)), some (vI (times : Int)), none, none, none, none]) rfl rfl rfl rfl rfl (r_X5_giveScene_0 ?_)
  have key : ∀ q, TxAt dd g0 q (a0 3) → rI (d + 3) m_X5_giveScene 18 [some (vR 118), some (vI ((c : Int))), some (vI ((times : Int))), some (vR q), some (vI 0), none, none] [] dd sh g K := by
    intro q hq
    refine loop (P := fun k => ∀ g', (∀ q, q ≠ 116 → q ≠ 117 → q ≠ 119 → g' q = g q) → (∀ p, p < k → s.1 (20 + 7 * p) ≠ 0 → g' 119 p = oddsA a0 (g0 137) (a0 3) p c (a0 (16 + 7 * p))) → rI (d + 3) m_X5_giveScene 18 [some (vR 118), some (vI ((c : Int))), some (vI ((times : Int))), some (vR q), some (vI ((k : Int))), none, none] [] dd sh (g') K) (n := n) ?_ ?_ 0 (by omega) g (fun _ _ _ _ => rfl) (fun p hp => absurd hp (by omega))
    · intro g' fg hch
      refine r_X5_giveScene_18 ?_
      rw [fg 3 (by decide) (by decide) (by decide), en.1, e0]
      refine ⟨⟨by omega, by omega⟩, ⟨by omega, by omega⟩, fun _ => ?_, fun h => absurd h (by omega)⟩
      exact ph2 g' (fun q h1 h2 h3 h4 => by rw [fg q (by omega) (by omega) (by omega)]; exact f q h1 h2 h3 h4) (rsR hS fun q h1 h2 => fg q (by omega) (by omega) (by omega)) (by rw [fg 118 (by decide) (by decide) (by decide)]; exact hb) (fun p hp h9 _ => hch p hp h9)
    · intro k hk ih g' fg hch
      have hSg := rsR hS (g' := g') fun q h1 h2 => fg q (by omega) (by omega) (by omega)
      refine r_X5_giveScene_18 ?_
      rw [fg 3 (by decide) (by decide) (by decide), en.1, e0]
      refine ⟨⟨by omega, by omega⟩, ⟨by omega, by omega⟩, fun h => absurd h (by omega), fun _ => ⟨⟨by omega, by omega⟩, fun h => ?_, fun h => ?_⟩⟩
      · exact ph2 g' (fun q h1 h2 h3 h4 => by rw [fg q (by omega) (by omega) (by omega)]; exact f q h1 h2 h3 h4) hSg (by rw [fg 118 (by decide) (by decide) (by decide)]; exact hb) (fun p hp h9 h10 => absurd h10 (by omega))
      · refine s_X7_comes hSg (p := k) (by omega) (by omega) fun r er r0 r1 => ⟨⟨by omega, by omega⟩, fun h0 => ?_, fun h0 => ?_⟩
        · refine ih g' fg fun p hp h9 => ?_
          by_cases hpk : p = k
          · subst hpk; omega
          · exact hch p (by omega) h9
        · refine s_X7_isGuilty hSg (p := k) (by omega) (by omega) fun r2 er2 r20 r21 => ?_
          refine s_X2_oddsBy (t := a0 3) hSg (by omega) (by omega) hc (by omega) ⟨by omega, by omega⟩ ?_ fun g2 f2 => ⟨by omega, by omega, ?_⟩
          · rcases hq with h | ⟨h1, h2, h3, h4⟩
            · exact Or.inl h
            · refine Or.inr ⟨h1, h2, h3, ?_⟩
              rw [fg 137 (by decide) (by decide) (by decide), f 137 (by decide) (by decide) (by decide) (by decide)]
              exact h4.fr fun q hq => by rw [fg q (by omega) (by omega) (by omega)]; exact f q (by omega) (by omega) (by omega) (by omega)
          · rw [show ((k : Int)).toNat = k from rfl]
            refine ih _ (fun q h1 h2 h3 => by rw [up_off h3, f2 q h1 h2, fg q h1 h2 h3]) fun p hp h9 => ?_
            rw [up_at]
            by_cases hpk : p = k
            · subst hpk
              rw [if_pos rfl, oddsA_BK b (by omega) hc, fg 137 (by decide) (by decide) (by decide), f 137 (by decide) (by decide) (by decide) (by decide), er2, b (16 + 7 * p) (by omega) (by omega) (by omega)]
            · rw [if_neg hpk, f2 119 (by decide) (by decide)]; exact hch p (by omega) h9
  have hH' : RHc g a0 := RHc.row2 hH fun q hq => f q (by omega) (by omega) (by omega) (by omega)
  rw [e2, hru.1]
  refine s_X1_textOf hH' ⟨by omega, by omega⟩ (fun h => ?_) (fun h => ?_)
  · rcases Inv.txAt' htx.2 hX hru.2 with h' | h'
    · omega
    · exact key _ h'.2
  · rcases Inv.txAt' htx.2 hX hru.2 with h' | h'
    · exact key _ h'.2
    · omega
