-- the invariant's parts when other cells change
theorem up_at {g : Nat → Nat → Int} {p i j : Nat} {x : Int} : up g p i x p j = if j = i then x else g p j := by simp [up]
theorem up_off {g : Nat → Nat → Int} {p q i : Nat} {x : Int} (h : q ≠ p) : up g p i x q = g q := by funext j; simp [up, h]
section FR
variable {w rk sz l0 l1 l2 l3 a b s nv se ts ha he le bk h : Nat → Int} {row : Nat → Nat → Int}
theorem RN.fr (H : RN w rk sz l0 l1 l2 l3 a) (e : ∀ k, (k ≤ 1 ∨ (5 ≤ k ∧ k ≤ 8) ∨ (86 ≤ k ∧ k < 184)) → b k = a k) (ew : ∀ p, p < 6 → b (22 + 7 * p) = a (22 + 7 * p)) : RN w rk sz l0 l1 l2 l3 b := by
  have e0 := e 0 (by omega)
  have e1 := e 1 (by omega)
  have e5 := e 5 (by omega)
  have e6 := e 6 (by omega)
  have e7 := e 7 (by omega)
  have e8 := e 8 (by omega)
  unfold RN
  rw [e0, e1, e5, e6, e7, e8]
  refine ⟨fun p hp => ?_, fun k hk => ?_, H.s0, H.s1, H.s2, H.s3, fun k hk => ?_, fun k hk => ?_, fun k hk => ?_, fun k hk => ?_⟩
  · rw [ew p hp]; exact H.ww p hp
  · rw [e (174 + k) (by omega)]; exact H.rk k hk
  · have := H.s0
    rw [e (86 + 3 * k) (by omega), e (87 + 3 * k) (by omega), e (88 + 3 * k) (by omega)]; exact H.l0 k hk
  · have := H.s1
    rw [e (110 + 2 * k) (by omega), e (111 + 2 * k) (by omega)]; exact H.l1 k hk
  · have := H.s2
    rw [e (126 + 3 * k) (by omega), e (127 + 3 * k) (by omega), e (128 + 3 * k) (by omega)]; exact H.l2 k hk
  · have := H.s3
    rw [e (150 + 3 * k) (by omega), e (151 + 3 * k) (by omega), e (152 + 3 * k) (by omega)]; exact H.l3 k hk
/-- one more suspect, of weight 1 -/
theorem RN.sus (H : RN w rk sz l0 l1 l2 l3 a) (e : ∀ k, (k = 1 ∨ (5 ≤ k ∧ k ≤ 8) ∨ (86 ≤ k ∧ k < 184)) → b k = a k) (h0 : 0 ≤ a 0) (e0 : b 0 = a 0 + 1) (ew : ∀ p : Nat, p < 6 → (p : Int) < a 0 → b (22 + 7 * p) = a (22 + 7 * p)) (e1 : b (22 + 7 * (a 0).toNat) = 1) : RN w rk sz l0 l1 l2 l3 b := by
  have f1 := e 1 (by omega)
  have e5 := e 5 (by omega)
  have e6 := e 6 (by omega)
  have e7 := e 7 (by omega)
  have e8 := e 8 (by omega)
  unfold RN
  rw [f1, e5, e6, e7, e8, e0]
  refine ⟨fun p hp => ?_, fun k hk => ?_, H.s0, H.s1, H.s2, H.s3, fun k hk => ?_, fun k hk => ?_, fun k hk => ?_, fun k hk => ?_⟩
  · have hw := H.ww p hp
    refine ⟨fun hq => ?_, fun hq => hw.2.1 (by omega), hw.2.2⟩
    by_cases hpp : (p : Int) < a 0
    · rw [ew p hp hpp]; exact hw.1 hpp
    · have ep : p = (a 0).toNat := by omega
      rw [ep, e1, ← ep]; exact hw.2.1 (by omega)
  · rw [e (174 + k) (by omega)]; exact H.rk k hk
  · have := H.s0
    rw [e (86 + 3 * k) (by omega), e (87 + 3 * k) (by omega), e (88 + 3 * k) (by omega)]
    have := H.l0 k hk
    omega
  · have := H.s1
    rw [e (110 + 2 * k) (by omega), e (111 + 2 * k) (by omega)]; exact H.l1 k hk
  · have := H.s2
    rw [e (126 + 3 * k) (by omega), e (127 + 3 * k) (by omega), e (128 + 3 * k) (by omega)]
    have := H.l2 k hk
    omega
  · have := H.s3
    rw [e (150 + 3 * k) (by omega), e (151 + 3 * k) (by omega), e (152 + 3 * k) (by omega)]
    have := H.l3 k hk
    omega
/-- one more scene -/
theorem RN.sc (H : RN w rk sz l0 l1 l2 l3 a) (e : ∀ k, (k = 0 ∨ (5 ≤ k ∧ k ≤ 8) ∨ (86 ≤ k ∧ k < 184)) → b k = a k) (e1 : b 1 = a 1 + 1) (ew : ∀ p : Nat, p < 6 → b (22 + 7 * p) = a (22 + 7 * p)) : RN w rk sz l0 l1 l2 l3 b := by
  have f1 := e 0 (by omega)
  have e5 := e 5 (by omega)
  have e6 := e 6 (by omega)
  have e7 := e 7 (by omega)
  have e8 := e 8 (by omega)
  unfold RN
  rw [f1, e5, e6, e7, e8, e1]
  refine ⟨fun p hp => ?_, fun k hk => ?_, H.s0, H.s1, H.s2, H.s3, fun k hk => ?_, fun k hk => ?_, fun k hk => ?_, fun k hk => ?_⟩
  · rw [ew p hp]; exact H.ww p hp
  · rw [e (174 + k) (by omega)]; exact H.rk k hk
  · have := H.s0
    rw [e (86 + 3 * k) (by omega), e (87 + 3 * k) (by omega), e (88 + 3 * k) (by omega)]
    have := H.l0 k hk
    omega
  · have := H.s1
    rw [e (110 + 2 * k) (by omega), e (111 + 2 * k) (by omega)]
    have := H.l1 k hk
    omega
  · have := H.s2
    rw [e (126 + 3 * k) (by omega), e (127 + 3 * k) (by omega), e (128 + 3 * k) (by omega)]; exact H.l2 k hk
  · have := H.s3
    rw [e (150 + 3 * k) (by omega), e (151 + 3 * k) (by omega), e (152 + 3 * k) (by omega)]
    have := H.l3 k hk
    omega
theorem RT.fr {r : Nat → Int} {x : Nat} (H : RT r a x) (e : ∀ k, x ≤ k → k < x + 78 → b k = a k) (h0 : a 0 ≤ b 0) (h1 : a 1 ≤ b 1) : RT r b x := by
  unfold RT at H ⊢
  have e0 := e x (by omega) (by omega)
  have e1 := e (x + 1) (by omega) (by omega)
  have e2 := e (x + 2) (by omega) (by omega)
  have e3 := e (x + 3) (by omega) (by omega)
  have e4 := e (x + 4) (by omega) (by omega)
  have e5 := e (x + 5) (by omega) (by omega)
  rw [e0, e1, e2, e3, e4, e5]
  obtain ⟨g1, g2, g3, g4, g5, g6, g7, g8, g9, g10, g11, g12, g13, g14⟩ := H
  refine ⟨⟨g1.1, by omega, by omega⟩, ⟨g2.1, by omega⟩, g3, g4, g5, g6, g7, g8, fun p hp hq => ?_, g10, g11, fun c hc hq => ?_, g13, fun i hi => ?_⟩
  · rw [e (x + 6 + 3 * p) (by omega) (by omega), e (x + 7 + 3 * p) (by omega) (by omega), e (x + 8 + 3 * p) (by omega) (by omega)]; exact g9 p hp hq
  · rw [e (x + 24 + 2 * c) (by omega) (by omega), e (x + 25 + 2 * c) (by omega) (by omega)]; exact g12 c hc hq
  · rw [e (x + 38 + i) (by omega) (by omega)]
    have := g14 i hi
    omega
theorem RH.fr (H : RH h row a) (e : ∀ k, ((2 ≤ k ∧ k ≤ 4) ∨ (184 ≤ k ∧ k < 2524)) → b k = a k) (h0 : a 0 ≤ b 0) (h1 : a 1 ≤ b 1) : RH h row b := by
  have hs := H.st
  unfold RH at H ⊢
  rw [e 2 (by omega), e 3 (by omega), e 4 (by omega)]
  refine ⟨H.1, H.2.1, H.2.2.1, H.2.2.2.1, fun j hj => ?_⟩
  exact (H.2.2.2.2 j hj).fr (fun k hk hk2 => e k (by omega)) h0 h1
theorem RS.fr (H : RS s nv se ts ha he le bk a) (e : ∀ k, (k ≤ 1 ∨ (10 ≤ k ∧ k ≤ 13) ∨ (58 ≤ k ∧ k < 86) ∨ 2524 ≤ k) → b k = a k) (ew : ∀ p q, p < 6 → q < 6 → b (16 + q + 7 * p) = a (16 + q + 7 * p)) : RS s nv se ts ha he le bk b := by
  unfold RS
  rw [e 0 (by omega), e 1 (by omega), e 10 (by omega), e 11 (by omega), e 12 (by omega), e 13 (by omega)]
  refine ⟨H.n, H.m, H.night, H.tak, H.x, H.wr, H.el, H.bits, fun p hp hq => ?_, H.pb, H.pr, fun c hc hq => ?_, H.cb, H.cr, fun i hi => ?_⟩
  · have e1 := ew p 0 hp (by omega)
    have e2 := ew p 1 hp (by omega)
    have e3 := ew p 2 hp (by omega)
    have e4 := ew p 3 hp (by omega)
    have e5 := ew p 4 hp (by omega)
    have e6 := ew p 5 hp (by omega)
    rw [e1, e2, e3, e4, e5, e6]; exact H.pp p hp hq
  · rw [e (58 + 4 * c) (by omega), e (59 + 4 * c) (by omega), e (60 + 4 * c) (by omega), e (61 + 4 * c) (by omega)]; exact H.cc c hc hq
  · rw [e (2524 + i) (by omega)]; exact H.bk i hi
end FR
theorem RXt.fr {dd : List (Nat × Nat)} {sh : Nat → Nat → Nat} {g g' : Nat → Nat → Int} {a b T : Nat → Int} (H : RXt dd sh g a T) (e : b 2 = a 2) (eg : ∀ q, 149 ≤ q → g' q = g q) : RXt dd sh g' b T := by
  intro t ht hq
  obtain ⟨j, n, c, h1, h2, h3, h4, h5, h6, h7, h8⟩ := H t ht (by omega)
  refine ⟨j, n, c, h1, h2, h3, h4, by rw [eg _ (by omega)]; exact h5, h6, fun k hk => ?_, fun w hw => ?_⟩
  · have := h7 k hk
    unfold ClOk at this ⊢
    rw [eg (sh 51 t + 4) (by omega), eg (sh 51 t + 5) (by omega), eg (sh 51 t + 6) (by omega)]
    exact this
  · have := h8 w hw
    unfold LawOk at this ⊢
    rw [eg (sh 51 t + 1) (by omega), eg (sh 51 t + 2) (by omega), eg (sh 51 t + 3) (by omega)]
    exact this
theorem RXs.fr {dd : List (Nat × Nat)} {sh : Nat → Nat → Nat} {a b a' b' : Nat → Int} (H : RXs dd sh a b) (e : a' 2 = a 2) (e' : b' 2 = b 2) : RXs dd sh a' b' := by
  unfold RXs at H ⊢
  rw [e, e']; exact H
