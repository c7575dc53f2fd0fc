-- a night of the reference
section ABC
variable {a b : Nat → Int}
theorem AB.lo (H : AB a) (e : BK a b) (x : 0 ≤ b 12 ∧ b 12 ≤ 30402) (wr : 0 ≤ b 13 ∧ b 13 ≤ 40) (bk : ∀ i : Nat, (i : Int) < b 13 → 0 ≤ b (2524 + i) ∧ b (2524 + i) % 8 < a 0 ∧ b (2524 + i) / 8 % 8 < a 1 ∧ b (2524 + i) / 64 ≤ 9999) : AB b := by
  unfold AB
  rw [e 0 (by decide) (by decide) (by decide), e 1 (by decide) (by decide) (by decide), e 10 (by decide) (by decide) (by decide), e 11 (by decide) (by decide) (by decide)]
  refine ⟨H.n, H.m, H.night, H.tak, x, wr, fun p hp hq => ?_, fun c hc hq => ?_, bk⟩
  · rw [e (16 + 7 * p) (by omega) (by omega) (by omega), e (17 + 7 * p) (by omega) (by omega) (by omega), e (18 + 7 * p) (by omega) (by omega) (by omega), e (19 + 7 * p) (by omega) (by omega) (by omega), e (20 + 7 * p) (by omega) (by omega) (by omega), e (21 + 7 * p) (by omega) (by omega) (by omega)]; exact H.pp p hp hq
  · rw [e (58 + 4 * c) (by omega) (by omega) (by omega), e (59 + 4 * c) (by omega) (by omega) (by omega), e (60 + 4 * c) (by omega) (by omega) (by omega), e (61 + 4 * c) (by omega) (by omega) (by omega)]; exact H.cc c hc hq
theorem AB.draw (H : AB a) : AB (upR a 12 (dr (a 12))) := by
  refine H.lo (fun k h1 h2 h3 => upR_off h2) (by rw [upR_at]; exact dr_b H.x) (by rw [upR_off (by decide)]; exact H.wr) fun i hi => ?_
  rw [upR_off (by decide)] at hi
  rw [upR_off (by omega)]; exact H.bk i hi
theorem AB.write (w : Bool) {c p : Nat} (H : AB a) (hp : p < 6) (hpa : (p : Int) < a 0) (hc : c < 7) (hca : (c : Int) < a 1) : AB (wrA w a c p) := by
  have hw := H.wr
  have hn := H.night
  cases w with
  | false => exact H
  | true =>
    refine H.lo (fun k h1 h2 h3 => wrA_low _ _ _ _ h1 h3) (by rw [wrA_low _ _ _ _ (by decide) (by decide)]; exact H.x) ?_ fun i hi => ?_
    · unfold wrA
      rw [if_pos rfl]
      by_cases h : a 13 = 40
      · rw [if_pos h]
        show 0 ≤ (if 13 = 2563 then _ else if 2524 ≤ 13 ∧ 13 < 2563 then _ else a 13) ∧ (if 13 = 2563 then _ else if 2524 ≤ 13 ∧ 13 < 2563 then _ else a 13) ≤ 40
        rw [if_neg (by decide), if_neg (by decide)]; omega
      · rw [if_neg h, upR_at]; omega
    · by_cases h : a 13 = 40
      · have h13 : wrA true a c p 13 = a 13 := by
          unfold wrA
          rw [if_pos rfl, if_pos h]
          show (if 13 = 2563 then _ else if 2524 ≤ 13 ∧ 13 < 2563 then _ else a 13) = a 13
          rw [if_neg (by decide), if_neg (by decide)]
        rw [h13] at hi
        have hwa : wrA true a c p (2524 + i) = if i = 39 then a 10 * 64 + c * 8 + p else a (2524 + (i + 1)) := by
          unfold wrA
          rw [if_pos rfl, if_pos h]
          show (if 2524 + i = 2563 then _ else if 2524 ≤ 2524 + i ∧ 2524 + i < 2563 then a (2524 + i + 1) else a (2524 + i)) = _
          by_cases h39 : i = 39
          · rw [if_pos (by omega), if_pos h39]
          · rw [if_neg (by omega), if_pos (by omega), if_neg h39]; rfl
        rw [hwa]
        by_cases h39 : i = 39
        · rw [if_pos h39]; omega
        · rw [if_neg h39]; exact H.bk (i + 1) (by omega)
      · have h13 : wrA true a c p 13 = a 13 + 1 := by unfold wrA; rw [if_pos rfl, if_neg h, upR_at]
        rw [h13] at hi
        have hwa : wrA true a c p (2524 + i) = if (i : Int) = a 13 then a 10 * 64 + c * 8 + p else a (2524 + i) := by
          unfold wrA
          rw [if_pos rfl, if_neg h, upR_off (by omega)]
          unfold upR
          by_cases h9 : (i : Int) = a 13
          · rw [if_pos (by omega), if_pos h9]
          · rw [if_neg (by omega), if_neg h9]
        rw [hwa]
        by_cases h9 : (i : Int) = a 13
        · rw [if_pos h9]; omega
        · rw [if_neg h9]; exact H.bk i (by omega)
theorem AB.one (H : AB a) {j : Nat} {v : Int} (hj : (j = 11 ∧ 0 ≤ v ∧ v ≤ 99999999) ∨ (∃ p, p < 6 ∧ j = 19 + 7 * p ∧ 0 ≤ v ∧ v ≤ 9) ∨ (∃ c, c < 7 ∧ j = 61 + 4 * c ∧ v = 0) ∨ (j = 10 ∧ 0 ≤ v ∧ v ≤ 9999)) : AB (upR a j v) := by
  have hj2 : 10 ≤ j ∧ j < 86 := by
    rcases hj with h | ⟨p, h1, h2, _⟩ | ⟨c, h1, h2, _⟩ | h <;> omega
  have hj3 : j ≠ 12 ∧ j ≠ 13 := by
    rcases hj with h | ⟨p, h1, h2, _⟩ | ⟨c, h1, h2, _⟩ | h <;> omega
  unfold AB
  rw [upR_off (k := 0) (by omega), upR_off (k := 1) (by omega), upR_off (k := 12) (by omega), upR_off (k := 13) (by omega)]
  refine ⟨H.n, H.m, ?_, ?_, H.x, H.wr, fun p hp hq => ?_, fun c hc hq => ?_, fun i hi => ?_⟩
  · have := H.night
    unfold upR
    split
    · rcases hj with h | ⟨p, h1, h2, _⟩ | ⟨c, h1, h2, _⟩ | h <;> omega
    · exact this
  · have := H.tak
    unfold upR
    split
    · rcases hj with h | ⟨p, h1, h2, _⟩ | ⟨c, h1, h2, _⟩ | h <;> omega
    · exact this
  · have := H.pp p hp hq
    have ex : ∀ k, k ≠ 19 + 7 * p → 16 + 7 * p ≤ k → k ≤ 21 + 7 * p → upR a j v k = a k := fun k h1 h2 h3 => upR_off (by
      rcases hj with h | ⟨p', h4, h5, _⟩ | ⟨c, h4, h5, _⟩ | h <;> omega)
    rw [ex (16 + 7 * p) (by omega) (by omega) (by omega), ex (17 + 7 * p) (by omega) (by omega) (by omega), ex (18 + 7 * p) (by omega) (by omega) (by omega), ex (20 + 7 * p) (by omega) (by omega) (by omega), ex (21 + 7 * p) (by omega) (by omega) (by omega)]
    refine ⟨this.1, this.2.1, this.2.2.1, ?_, this.2.2.2.2⟩
    unfold upR
    split
    · rcases hj with h | ⟨p', h4, h5, h6⟩ | ⟨c, h4, h5, _⟩ | h
      · omega
      · exact h6
      · omega
      · omega
    · exact this.2.2.2.1
  · have := H.cc c hc hq
    have ex : ∀ k, k ≠ 61 + 4 * c → 58 + 4 * c ≤ k → k ≤ 61 + 4 * c → upR a j v k = a k := fun k h1 h2 h3 => upR_off (by
      rcases hj with h | ⟨p', h4, h5, _⟩ | ⟨c, h4, h5, _⟩ | h <;> omega)
    rw [ex (58 + 4 * c) (by omega) (by omega) (by omega), ex (59 + 4 * c) (by omega) (by omega) (by omega), ex (60 + 4 * c) (by omega) (by omega) (by omega)]
    refine ⟨this.1, this.2.1, this.2.2.1, ?_⟩
    unfold upR
    split
    · rcases hj with h | ⟨p', h4, h5, h6⟩ | ⟨c', h4, h5, h6⟩ | h
      · omega
      · omega
      · omega
      · omega
    · exact this.2.2.2
  · rw [upR_off (by omega)]; exact H.bk i hi
end ABC
theorem g1_AB {w : Bool} {T : Nat → Int} {c p : Nat} {s : ST} (H : AB s.1) (hp : p < 6) (hpa : (p : Int) < s.1 0) (hc : c < 7) (hca : (c : Int) < s.1 1) : AB (g1 w T c s p).1 := by
  unfold g1
  split
  · exact H
  · split
    · exact H.draw.write w hp (by rw [upR_off (by decide)]; exact hpa) hc (by rw [upR_off (by decide)]; exact hca)
    · exact H.draw
theorem gSp_AB {w : Bool} {T : Nat → Int} {c n : Nat} {s : ST} (H : AB s.1) (hn : s.1 0 = n) (hc : c < 7) (hca : (c : Int) < s.1 1) : ∀ k, k ≤ n → AB (foldN (g1 w T c) s k).1 := by
  have h6 := H.n
  intro k
  induction k with
  | zero => intro _; exact H
  | succ k ih =>
    intro hk
    have hb : BK s.1 (foldN (g1 w T c) s k).1 := foldN_in (P := fun s' => BK s.1 s'.1) (fun _ _ hs => g1_BK hs _) (fun _ _ _ _ => rfl) k
    exact g1_AB (ih (by omega)) (by omega) (by rw [hb 0 (by decide) (by decide) (by decide)]; omega) hc (by rw [hb 1 (by decide) (by decide) (by decide)]; exact hca)
theorem gTt_AB {w : Bool} {T : Nat → Int} {c n : Nat} {s : ST} (H : AB s.1) (hn : s.1 0 = n) (hc : c < 7) (hca : (c : Int) < s.1 1) : ∀ k, AB (foldN (fun s _ => gS w T n c s) s k).1 := by
  intro k
  induction k with
  | zero => exact H
  | succ k ih =>
    have hb : BK s.1 (foldN (fun s _ => gS w T n c s) s k).1 := gTt_BK (fun _ _ _ _ => rfl) k
    exact gSp_AB ih (by rw [hb 0 (by decide) (by decide) (by decide)]; exact hn) hc (by rw [hb 1 (by decide) (by decide) (by decide)]; exact hca) n (Nat.le_refl _)
theorem gA_AB {w : Bool} {T : Nat → Int} {n : Nat} {s : ST} (H : AB s.1) (hn : s.1 0 = n) : ∀ k : Nat, (k : Int) ≤ s.1 1 → AB (foldN (gT w T n) s k).1 := by
  have h7 := H.m
  intro k
  induction k with
  | zero => intro _; exact H
  | succ k ih =>
    intro hk
    have hb : BK s.1 (foldN (gT w T n) s k).1 := gA_BK (fun _ _ _ _ => rfl) k
    exact gTt_AB (ih (by omega)) (by rw [hb 0 (by decide) (by decide) (by decide)]; exact hn) (by omega) (by rw [hb 1 (by decide) (by decide) (by decide)]; omega) _
def PR (g0 g : Nat → Nat → Int) (s : ST) : Prop := (∀ q, q ≠ 134 → q ≠ 135 → q ≠ 140 → q ≠ 141 → g q = g0 q) ∧ (∀ k, k ≠ 23 → k ≠ 24 → g 134 k = g0 134 k) ∧ g 135 = s.1 ∧ g 134 23 = s.2.1 ∧ g 134 24 = s.2.2
theorem PR.rf1 {g0 g g' : Nat → Nat → Int} {s : ST} (h : PR g0 g s) (f : RF1 g g') : PR g0 g' s :=
  ⟨fun q h1 h2 h3 h4 => by rw [f q h3 h4]; exact h.1 q h1 h2 h3 h4, fun k h1 h2 => by rw [f 134 (by decide) (by decide)]; exact h.2.1 k h1 h2, by rw [f 135 (by decide) (by decide)]; exact h.2.2.1, by rw [f 134 (by decide) (by decide)]; exact h.2.2.2.1, by rw [f 134 (by decide) (by decide)]; exact h.2.2.2.2⟩
theorem PR.up {g0 g : Nat → Nat → Int} {s : ST} {j : Nat} {v : Int} (h : PR g0 g s) : PR g0 (up g 135 j v) (upR s.1 j v, s.2) := by
  refine ⟨fun q h1 h2 h3 h4 => by rw [up_off h2]; exact h.1 q h1 h2 h3 h4, fun k h1 h2 => by rw [up_off (by decide)]; exact h.2.1 k h1 h2, ?_, by rw [up_off (by decide)]; exact h.2.2.2.1, by rw [up_off (by decide)]; exact h.2.2.2.2⟩
  funext k
  rw [up_at]
  show _ = (if k = j then v else s.1 k)
  rw [h.2.2.1]
theorem s_X12_drawn {d : Nat} {dd : List (Nat × Nat)} {sh : Nat → Nat → Nat} {g : Nat → Nat → Int} {K : Int → (Nat → Nat → Int) → Prop} (hx : 0 ≤ g 135 12 ∧ g 135 12 ≤ 30402) (hK : K (g 135 12 % 10) (up g 135 12 (dr (g 135 12)))) : cI (d + 2) m_X12_drawn [(vR 134), (vI 10)] dd sh g K := by
  refine mkI (ls := [some (vR 134), some (vI 10), none]) rfl rfl rfl rfl rfl (r_X12_drawn_0 ?_)
  refine ⟨⟨by omega, by omega⟩, ⟨by decide, by decide⟩, by decide, ?_⟩
  refine mkV (ls := [some (vR 134)]) rfl rfl rfl rfl rfl (r_X12_anew_0 ?_)
  rw [Int.tmod_eq_emod_of_nonneg (by omega), Int.tmod_eq_emod_of_nonneg (by omega)]
  exact ⟨⟨by omega, by omega⟩, ⟨by omega, by omega⟩, hK⟩
theorem s_X12_write {d : Nat} {dd : List (Nat × Nat)} {sh : Nat → Nat → Nat} {g : Nat → Nat → Int} {K : (Nat → Nat → Int) → Prop} {g0 : Nat → Nat → Int} {s : ST} {w : Bool} {c p : Nat} (hA : AB s.1) (h : PR g0 g s) (hw : g0 134 22 = (if w = true then 1 else 0)) (hp : p < 6) (hK : ∀ g', PR g0 g' (wrA w s.1 c p, s.2.1 + 1, ior s.2.2 ((1 : Int) * 2 ^ p)) → K g') : cV (d + 1) m_X12_write [(vR 134), (vI (c : Int)), (vI (p : Int))] dd sh g K := by
  obtain ⟨p1, p2, p3, p4, p5⟩ := h
  have h22 : g 134 22 = (if w = true then 1 else 0) := by rw [p2 22 (by decide) (by decide)]; exact hw
  have hwr := hA.wr
  have base : PR g0 (up (up g 134 23 (s.2.1 + 1)) 134 24 (ior s.2.2 ((1 : Int) * 2 ^ p))) (s.1, s.2.1 + 1, ior s.2.2 ((1 : Int) * 2 ^ p)) :=
    ⟨fun q h1 h2 h3 h4 => by rw [up_off h1, up_off h1]; exact p1 q h1 h2 h3 h4, fun k h1 h2 => by rw [up_at, if_neg h2, up_at, if_neg h1]; exact p2 k h1 h2, by rw [up_off (by decide), up_off (by decide)]; exact p3, by rw [up_at, if_neg (by decide), up_at, if_pos rfl], by rw [up_at, if_pos rfl]⟩
  refine mkV (ls := [some (vR 134), some (vI ((c : Int))), some (vI ((p : Int))), none]) rfl rfl rfl rfl rfl (r_X12_write_0 ?_)
  rw [p3, p4, p5, show ((p : Int)).toNat = p from rfl, h22]
  cases w with
  | false => exact ⟨by omega, by omega, ⟨by decide, by decide⟩, fun h9 => absurd rfl h9, fun _ => hK _ base⟩
  | true =>
    refine ⟨by omega, by omega, ⟨by decide, by decide⟩, fun _ => ⟨⟨by omega, by omega⟩, fun h9 => ?_, fun h9 => ?_⟩, fun h9 => absurd h9 (by decide)⟩
    · refine ⟨by omega, by omega, ?_⟩
      rw [show (2524 + s.1 13).toNat = 2524 + (s.1 13).toNat by omega]
      have e : wrA true s.1 c p = upR (upR s.1 (2524 + (s.1 13).toNat) (s.1 10 * 64 + c * 8 + p)) 13 (s.1 13 + 1) := by unfold wrA; rw [if_pos rfl, if_neg h9]
      rw [e] at hK
      have e13 : up (up (up g 134 23 (s.2.1 + 1)) 134 24 (ior s.2.2 ((1 : Int) * 2 ^ p))) 135 (2524 + (s.1 13).toNat) (s.1 10 * 64 + (c : Int) * 8 + (p : Int)) 135 13 = s.1 13 := by
        rw [up_at, if_neg (by omega), up_off (by decide), up_off (by decide), p3]
      rw [e13]
      exact hK _ (base.up.up)
    · have e : wrA true s.1 c p = fun k => if k = 2563 then s.1 10 * 64 + c * 8 + p else if 2524 ≤ k ∧ k < 2563 then s.1 (k + 1) else s.1 k := by unfold wrA; rw [if_pos rfl, if_pos h9]
      refine loop (P := fun k => ∀ g', PR g0 g' ((fun j => if 2524 ≤ j ∧ j < 2524 + k then s.1 (j + 1) else s.1 j), s.2.1 + 1, ior s.2.2 ((1 : Int) * 2 ^ p)) → rV d m_X12_write 44 [some (vR 134), some (vI ((c : Int))), some (vI ((p : Int))), some (vI (((k : Nat) : Int) + 1))] [] dd sh (g') K) (n := 39) ?_ ?_ 0 (by omega) _ ?_
      · intro g' hp'
        have q13 : g' 135 13 = 40 := by rw [hp'.2.2.1]; show (if 2524 ≤ 13 ∧ 13 < 2524 + 39 then s.1 (13 + 1) else s.1 13) = 40; rw [if_neg (by decide)]; exact h9
        have q10 : g' 135 10 = s.1 10 := by rw [hp'.2.2.1]; show (if 2524 ≤ 10 ∧ 10 < 2524 + 39 then s.1 (10 + 1) else s.1 10) = s.1 10; rw [if_neg (by decide)]
        refine r_X12_write_44 ⟨⟨by decide, by decide⟩, fun _ => ?_, fun h => absurd h (by decide)⟩
        rw [q13, q10]
        refine ⟨by decide, by decide, ?_⟩
        rw [show (2524 + ((40 : Int) - 1)).toNat = 2563 from rfl]
        have e13 : up (up g' 135 13 (40 - 1)) 135 2563 (s.1 10 * 64 + (c : Int) * 8 + (p : Int)) 135 13 + 1 = 40 := by rw [up_at, if_neg (by decide), up_at, if_pos rfl]; rfl
        rw [e13]
        have := (hp'.up (j := 13) (v := 40 - 1)).up (j := 2563) (v := s.1 10 * 64 + (c : Int) * 8 + (p : Int)) |>.up (j := 13) (v := 40)
        refine hK _ ?_
        rw [e]
        have ef : (fun k => if k = 2563 then s.1 10 * 64 + (c : Int) * 8 + (p : Int) else if 2524 ≤ k ∧ k < 2563 then s.1 (k + 1) else s.1 k) = upR (upR (upR (fun j => if 2524 ≤ j ∧ j < 2524 + 39 then s.1 (j + 1) else s.1 j) 13 (40 - 1)) 2563 (s.1 10 * 64 + (c : Int) * 8 + (p : Int))) 13 40 := by
          funext k
          unfold upR
          by_cases k1 : k = 13
          · rw [if_pos k1, if_neg (by omega), if_neg (by omega), k1, h9]
          · rw [if_neg k1]
            by_cases k2 : k = 2563
            · rw [if_pos k2, if_pos k2]
            · rw [if_neg k2, if_neg k2, if_neg k1]
        rw [ef]
        exact this
      · intro k hk ih g' hp'
        have hh := ih (up g' 135 (2524 + k) (s.1 (2525 + k))) (by
          have := hp'.up (j := 2524 + k) (v := s.1 (2525 + k))
          have ef : (fun j => if 2524 ≤ j ∧ j < 2524 + (k + 1) then s.1 (j + 1) else s.1 j) = upR (fun j => if 2524 ≤ j ∧ j < 2524 + k then s.1 (j + 1) else s.1 j) (2524 + k) (s.1 (2525 + k)) := by
            funext j
            unfold upR
            by_cases j1 : j = 2524 + k
            · rw [if_pos j1, if_pos (by omega), j1, show 2524 + k + 1 = 2525 + k by omega]
            · rw [if_neg j1]
              show (if 2524 ≤ j ∧ j < 2524 + (k + 1) then s.1 (j + 1) else s.1 j) = (if 2524 ≤ j ∧ j < 2524 + k then s.1 (j + 1) else s.1 j)
              by_cases j2 : 2524 ≤ j ∧ j < 2524 + k
              · rw [if_pos j2, if_pos (by omega)]
              · rw [if_neg j2, if_neg (by omega)]
          rw [ef]; exact this)
        have er : g' 135 (2525 + k) = s.1 (2525 + k) := by rw [hp'.2.2.1]; show (if 2524 ≤ 2525 + k ∧ 2525 + k < 2524 + k then s.1 (2525 + k + 1) else s.1 (2525 + k)) = s.1 (2525 + k); rw [if_neg (by omega)]
        refine r_X12_write_44 ?_
        rw [show (2524 + ((k : Int) + 1) - 1).toNat = 2524 + k by omega, show (2524 + ((k : Int) + 1)).toNat = 2525 + k by omega, er]
        exact ⟨⟨by omega, by omega⟩, fun h => absurd h (by omega), fun _ => ⟨by omega, by omega, by omega, by omega, hh⟩⟩
      · have ef : (fun j => if 2524 ≤ j ∧ j < 2524 + 0 then s.1 (j + 1) else s.1 j) = s.1 := by funext j; rw [if_neg (by omega)]
        rw [ef]; exact base
