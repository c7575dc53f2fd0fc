-- by hand: cut, encore, away, seat
section CH
variable {s nv se ts ha he le bk a b s' se' ha' bk' : Nat → Int}
theorem RS.chg (H : RS s nv se ts ha he le bk a) (e0 : b 0 = a 0) (e1 : b 1 = a 1) (s0 : s' 0 = s 0) (s7 : s' 7 = s 7) (s1 : s' 1 = s 1)
    (nt : s' 12 = b 10 ∧ 0 ≤ b 10 ∧ b 10 ≤ 9999) (tk : s' 13 = b 11 ∧ 0 ≤ b 11 ∧ b 11 ≤ 99999999) (xx : s' 14 = b 12 ∧ 0 ≤ b 12 ∧ b 12 ≤ 30402) (ww : s' 17 = b 13 ∧ 0 ≤ b 13 ∧ b 13 ≤ 40) (el : 0 ≤ s' 16 ∧ s' 16 ≤ 39)
    (bb : 0 ≤ s' 2 ∧ s' 2 < 64 ∧ 0 ≤ s' 8 ∧ s' 8 < 128 ∧ 0 ≤ s' 9 ∧ s' 9 < 128)
    (pp : ∀ p : Nat, p < 6 → (p : Int) < a 0 → se' p = b (18 + 7 * p) ∧ ha' p = b (19 + 7 * p) ∧ bt (s' 2) p = 1 - b (20 + 7 * p))
    (pb : ∀ p : Nat, p < 6 → (0 ≤ se' p ∧ se' p ≤ 39) ∧ (0 ≤ ha' p ∧ ha' p ≤ 9))
    (pr : ∀ p : Nat, p < 6 → a 0 ≤ (p : Int) → bt (s' 2) p = 0 ∧ ha' p = 0)
    (cc : ∀ c : Nat, c < 7 → (c : Int) < a 1 → bt (s' 8) c = b (60 + 4 * c) ∧ bt (s' 9) c = b (61 + 4 * c))
    (cr : ∀ c : Nat, c < 7 → a 1 ≤ (c : Int) → bt (s' 8) c = 0 ∧ bt (s' 9) c = 0)
    (hb : ∀ i : Nat, (i : Int) < b 13 → bk' ((s' 16 + i) % 40).toNat = b (2524 + i) ∧ 0 ≤ b (2524 + i) ∧ b (2524 + i) % 8 < a 0 ∧ b (2524 + i) / 8 % 8 < a 1 ∧ b (2524 + i) / 64 ≤ 9999)
    (ep : ∀ p : Nat, p < 6 → (p : Int) < a 0 → b (16 + 7 * p) = a (16 + 7 * p) ∧ b (17 + 7 * p) = a (17 + 7 * p) ∧ b (21 + 7 * p) = a (21 + 7 * p))
    (ec : ∀ c : Nat, c < 7 → (c : Int) < a 1 → b (58 + 4 * c) = a (58 + 4 * c) ∧ b (59 + 4 * c) = a (59 + 4 * c)) : RS s' nv se' ts ha' he le bk' b := by
  have hbt := H.bits
  unfold RS
  rw [e0, e1, s0, s7, s1]
  refine ⟨H.n, H.m, nt, tk, xx, ww, el, ⟨hbt.1, hbt.2.1, bb⟩, fun p hp hq => ?_, fun p hp => ?_, fun p hp hq => ⟨(H.pr p hp hq).1, pr p hp hq⟩, fun c hc hq => ?_, H.cb, cr, hb⟩
  · obtain ⟨p1, p2, p3, p4, p5, p6⟩ := H.pp p hp hq
    obtain ⟨q1, q2, q3⟩ := ep p hp hq
    obtain ⟨r1, r2, r3⟩ := pp p hp hq
    rw [q1, q2, q3]; exact ⟨p1, p2, r1, r2, r3, p6⟩
  · obtain ⟨p1, p2, p3, p4⟩ := H.pb p hp
    obtain ⟨r1, r2⟩ := pb p hp
    exact ⟨p1, r1, p3, r2⟩
  · obtain ⟨p1, p2, p3, p4⟩ := H.cc c hc hq
    obtain ⟨q1, q2⟩ := ec c hc hq
    obtain ⟨r1, r2⟩ := cc c hc hq
    rw [q1, q2]; exact ⟨p1, p2, r1, r2⟩
end CH
def upR (a : Nat → Int) (j : Nat) (v : Int) : Nat → Int := fun k => if k = j then v else a k
theorem upR_at (a : Nat → Int) (j : Nat) (v : Int) : upR a j v j = v := if_pos rfl
theorem upR_off {a : Nat → Int} {j k : Nat} {v : Int} (h : k ≠ j) : upR a j v k = a k := if_neg h
section CH2
variable {s nv se ts ha he le bk a s' se' : Nat → Int}
theorem RS.cut {c : Nat} (H : RS s nv se ts ha he le bk a) (hc : c < 7) (hq : (c : Int) < a 1) (e : ∀ k, k ≠ 8 → s' k = s k) (e8 : s' 8 = ixor (s 8) ((1 : Int) * 2 ^ c)) : RS s' nv se ts ha he le bk (upR a (60 + 4 * c) (1 - a (60 + 4 * c))) := by
  have hbt := H.bits
  have hw := H.wr
  obtain ⟨x1, x2, -, x4⟩ := ixor_bt (x := s 8) (n := c) (by omega) (by omega) hc
  refine RS.chg H (upR_off (by omega)) (upR_off (by omega)) (e 0 (by omega)) (e 7 (by omega)) (e 1 (by omega)) ?_ ?_ ?_ ?_ ?_ ?_ (fun p hp hq2 => ?_) (fun p hp => ⟨(H.pb p hp).2.1, (H.pb p hp).2.2.2⟩) (fun p hp hq2 => ?_) (fun c' hc' hq2 => ?_) (fun c' hc' hq2 => ?_) (fun i hi => ?_) (fun p hp hq2 => ?_) (fun c' hc' hq2 => ?_)
  · rw [e 12 (by omega), upR_off (by omega)]; exact H.night
  · rw [e 13 (by omega), upR_off (by omega)]; exact H.tak
  · rw [e 14 (by omega), upR_off (by omega)]; exact H.x
  · rw [e 17 (by omega), upR_off (by omega)]; exact H.wr
  · rw [e 16 (by omega)]; exact H.el
  · rw [e 2 (by omega), e 9 (by omega), e8]; omega
  · rw [e 2 (by omega), upR_off (by omega), upR_off (by omega), upR_off (by omega)]
    have := H.pp p hp hq2
    exact ⟨this.2.2.1, this.2.2.2.1, this.2.2.2.2.1⟩
  · rw [e 2 (by omega)]; exact (H.pr p hp hq2).2
  · rw [e 9 (by omega), e8, x4 c' hc', upR_off (k := 61 + 4 * c') (by omega)]
    have := H.cc c' hc' hq2
    by_cases h : c' = c
    · subst h; rw [if_pos rfl, upR_at, this.2.2.1]; exact ⟨rfl, this.2.2.2⟩
    · rw [if_neg h, upR_off (by omega)]; exact this.2.2
  · rw [e 9 (by omega), e8, x4 c' hc', if_neg (by omega)]; exact H.cr c' hc' hq2
  · rw [upR_off (by omega)] at hi
    rw [e 16 (by omega), upR_off (by omega)]; exact H.bk i hi
  · rw [upR_off (by omega), upR_off (by omega), upR_off (by omega)]; exact ⟨rfl, rfl, rfl⟩
  · rw [upR_off (by omega), upR_off (by omega)]; exact ⟨rfl, rfl⟩
theorem RS.enc {c : Nat} (H : RS s nv se ts ha he le bk a) (hc : c < 7) (hq : (c : Int) < a 1) (e : ∀ k, k ≠ 9 → s' k = s k) (e8 : s' 9 = ior (s 9) ((1 : Int) * 2 ^ c)) : RS s' nv se ts ha he le bk (upR a (61 + 4 * c) 1) := by
  have hbt := H.bits
  have hw := H.wr
  obtain ⟨x1, x2, -, x4⟩ := ior_bt (x := s 9) (n := c) (by omega) (by omega) hc
  refine RS.chg H (upR_off (by omega)) (upR_off (by omega)) (e 0 (by omega)) (e 7 (by omega)) (e 1 (by omega)) ?_ ?_ ?_ ?_ ?_ ?_ (fun p hp hq2 => ?_) (fun p hp => ⟨(H.pb p hp).2.1, (H.pb p hp).2.2.2⟩) (fun p hp hq2 => ?_) (fun c' hc' hq2 => ?_) (fun c' hc' hq2 => ?_) (fun i hi => ?_) (fun p hp hq2 => ?_) (fun c' hc' hq2 => ?_)
  · rw [e 12 (by omega), upR_off (by omega)]; exact H.night
  · rw [e 13 (by omega), upR_off (by omega)]; exact H.tak
  · rw [e 14 (by omega), upR_off (by omega)]; exact H.x
  · rw [e 17 (by omega), upR_off (by omega)]; exact H.wr
  · rw [e 16 (by omega)]; exact H.el
  · rw [e 2 (by omega), e 8 (by omega), e8]; omega
  · rw [e 2 (by omega), upR_off (by omega), upR_off (by omega), upR_off (by omega)]
    have := H.pp p hp hq2
    exact ⟨this.2.2.1, this.2.2.2.1, this.2.2.2.2.1⟩
  · rw [e 2 (by omega)]; exact (H.pr p hp hq2).2
  · rw [e 8 (by omega), e8, x4 c' hc', upR_off (k := 60 + 4 * c') (by omega)]
    have := H.cc c' hc' hq2
    by_cases h : c' = c
    · subst h; rw [if_pos rfl, upR_at]; exact ⟨this.2.2.1, rfl⟩
    · rw [if_neg h, upR_off (by omega)]; exact this.2.2
  · rw [e 8 (by omega), e8, x4 c' hc', if_neg (by omega)]; exact H.cr c' hc' hq2
  · rw [upR_off (by omega)] at hi
    rw [e 16 (by omega), upR_off (by omega)]; exact H.bk i hi
  · rw [upR_off (by omega), upR_off (by omega), upR_off (by omega)]; exact ⟨rfl, rfl, rfl⟩
  · rw [upR_off (by omega), upR_off (by omega)]; exact ⟨rfl, rfl⟩
theorem RS.away {c : Nat} (H : RS s nv se ts ha he le bk a) (hc : c < 6) (hq : (c : Int) < a 0) (e : ∀ k, k ≠ 2 → s' k = s k) (e8 : s' 2 = ixor (s 2) ((1 : Int) * 2 ^ c)) : RS s' nv se ts ha he le bk (upR a (20 + 7 * c) (1 - a (20 + 7 * c))) := by
  have hbt := H.bits
  have hw := H.wr
  obtain ⟨x1, x2, x3, x4⟩ := ixor_bt (x := s 2) (n := c) (by omega) (by omega) (by omega)
  have x3' := x3 (by omega) hc
  refine RS.chg H (upR_off (by omega)) (upR_off (by omega)) (e 0 (by omega)) (e 7 (by omega)) (e 1 (by omega)) ?_ ?_ ?_ ?_ ?_ ?_ (fun p hp hq2 => ?_) (fun p hp => ⟨(H.pb p hp).2.1, (H.pb p hp).2.2.2⟩) (fun p hp hq2 => ?_) (fun c' hc' hq2 => ?_) (fun c' hc' hq2 => ?_) (fun i hi => ?_) (fun p hp hq2 => ?_) (fun c' hc' hq2 => ?_)
  · rw [e 12 (by omega), upR_off (by omega)]; exact H.night
  · rw [e 13 (by omega), upR_off (by omega)]; exact H.tak
  · rw [e 14 (by omega), upR_off (by omega)]; exact H.x
  · rw [e 17 (by omega), upR_off (by omega)]; exact H.wr
  · rw [e 16 (by omega)]; exact H.el
  · rw [e 9 (by omega), e 8 (by omega), e8]; omega
  · rw [e8, x4 p (by omega), upR_off (k := 18 + 7 * p) (by omega), upR_off (k := 19 + 7 * p) (by omega)]
    have := H.pp p hp hq2
    by_cases h : p = c
    · subst h; rw [if_pos rfl, upR_at, this.2.2.2.2.1]; exact ⟨this.2.2.1, this.2.2.2.1, rfl⟩
    · rw [if_neg h, upR_off (by omega)]; exact ⟨this.2.2.1, this.2.2.2.1, this.2.2.2.2.1⟩
  · rw [e8, x4 p (by omega), if_neg (by omega)]; exact (H.pr p hp hq2).2
  · rw [e 8 (by omega), e 9 (by omega), upR_off (by omega), upR_off (by omega)]; exact (H.cc c' hc' hq2).2.2
  · rw [e 8 (by omega), e 9 (by omega)]; exact H.cr c' hc' hq2
  · rw [upR_off (by omega)] at hi
    rw [e 16 (by omega), upR_off (by omega)]; exact H.bk i hi
  · rw [upR_off (by omega), upR_off (by omega), upR_off (by omega)]; exact ⟨rfl, rfl, rfl⟩
  · rw [upR_off (by omega), upR_off (by omega)]; exact ⟨rfl, rfl⟩
theorem RS.seat {c : Nat} {v : Int} (H : RS s nv se ts ha he le bk a) (hc : c < 6) (hq : (c : Int) < a 0) (hv : 0 ≤ v ∧ v ≤ 39) (e : ∀ k, k ≠ c → se' k = se k) (e8 : se' c = v) : RS s nv se' ts ha he le bk (upR a (18 + 7 * c) v) := by
  have hbt := H.bits
  have hw := H.wr
  refine RS.chg H (upR_off (by omega)) (upR_off (by omega)) rfl rfl rfl ?_ ?_ ?_ ?_ H.el hbt.2.2 (fun p hp hq2 => ?_) (fun p hp => ⟨?_, (H.pb p hp).2.2.2⟩) (fun p hp hq2 => (H.pr p hp hq2).2) (fun c' hc' hq2 => ?_) (fun c' hc' hq2 => H.cr c' hc' hq2) (fun i hi => ?_) (fun p hp hq2 => ?_) (fun c' hc' hq2 => ?_)
  · rw [upR_off (by omega)]; exact H.night
  · rw [upR_off (by omega)]; exact H.tak
  · rw [upR_off (by omega)]; exact H.x
  · rw [upR_off (by omega)]; exact H.wr
  · rw [upR_off (k := 20 + 7 * p) (by omega), upR_off (k := 19 + 7 * p) (by omega)]
    have := H.pp p hp hq2
    by_cases h : p = c
    · subst h; rw [upR_at, e8]; exact ⟨rfl, this.2.2.2.1, this.2.2.2.2.1⟩
    · rw [e p h, upR_off (by omega)]; exact ⟨this.2.2.1, this.2.2.2.1, this.2.2.2.2.1⟩
  · by_cases h : p = c
    · subst h; rw [e8]; exact hv
    · rw [e p h]; exact (H.pb p hp).2.1
  · rw [upR_off (by omega), upR_off (by omega)]; exact (H.cc c' hc' hq2).2.2
  · rw [upR_off (by omega)] at hi
    rw [upR_off (by omega)]; exact H.bk i hi
  · rw [upR_off (by omega), upR_off (by omega), upR_off (by omega)]; exact ⟨rfl, rfl, rfl⟩
  · rw [upR_off (by omega), upR_off (by omega)]; exact ⟨rfl, rfl⟩
end CH2
/-- how a call by hand changes the class -/
def HF (g g' : Nat → Nat → Int) : Prop := ∀ q, q ≠ 2 → q ≠ 3 → q ≠ 5 → (q < 21 ∨ 50 < q) → g' q = g q
theorem RHc.row2 {g g' : Nat → Nat → Int} {a : Nat → Int} (H : RHc g a) (er : ∀ q, q = 2 ∨ (21 ≤ q ∧ q ≤ 50) → g' q = g q) : RHc g' a := RHc.fr H er (fun k _ => rfl) (Int.le_refl _) (Int.le_refl _)
theorem Inv.hand {dd : List (Nat × Nat)} {sh : Nat → Nat → Nat} {g g1 g3 : Nat → Nat → Int} {b : Nat → Int} {n j : Nat} {v : Int} (hI : Inv dd sh g) (f : HF g g1) (hj : 16 ≤ j ∧ j < 86) (hjw : ∀ p : Nat, p < 6 → j ≠ 22 + 7 * p) (hS : RSc g1 (upR (g 135) j v)) (hH : ∀ b, keepB (g 135) b n → RHc g1 b) (hb : keepB (g 135) b n) (r : ∀ q, q ≠ 135 → g3 q = g1 q) (e3 : g3 135 = upR b j v) : Inv dd sh g3 := by
  have hr : RefFr g1 g3 := ⟨fun q hq => r q (by omega), fun k hk => by rw [r 134 (by omega)]⟩
  have eb : ∀ k, k ≠ 4 → (k < 184 ∨ 2524 ≤ k) → g3 135 k = upR (g 135) j v k := fun k h1 h2 => by
    rw [e3]
    by_cases hk : k = j
    · subst hk; rw [upR_at, upR_at]
    · rw [upR_off hk, upR_off hk, hb.1 k h1 h2]
  have en : ∀ k, k ≠ 4 → (k < 184 ∨ 2524 ≤ k) → k ≠ j → g3 135 k = g 135 k := fun k h1 h2 h3 => by rw [eb k h1 h2, upR_off h3]
  refine hI.step (g1 := g1) (fun q hq => f q (by omega) (by omega) (by omega) (by omega)) hr ?_ ?_ ?_ ?_
  · exact hS.fr (fun k hk => eb k (by omega) (by omega)) (fun p q hp hq => eb _ (by omega) (by omega))
  · unfold RNc
    rw [f 12 (by omega) (by omega) (by omega) (by omega), f 13 (by omega) (by omega) (by omega) (by omega), f 14 (by omega) (by omega) (by omega) (by omega), f 16 (by omega) (by omega) (by omega) (by omega), f 17 (by omega) (by omega) (by omega) (by omega), f 18 (by omega) (by omega) (by omega) (by omega), f 19 (by omega) (by omega) (by omega) (by omega)]
    exact hI.nn.fr (fun k hk => en k (by omega) (by omega) (by omega)) (fun p hp => en _ (by omega) (by omega) (fun h => hjw p hp h.symm))
  · have := hH b hb
    exact RHc.fr this (fun q hq => rfl) (fun k hk => by rw [e3, upR_off (by omega)]) (by rw [e3, upR_off (by omega)]; exact Int.le_refl _) (by rw [e3, upR_off (by omega)]; exact Int.le_refl _)
  · exact en 2 (by omega) (by omega) (by omega)
theorem nsS {g g' : Nat → Nat → Int} {a : Nat → Int} (h : RSc g a) (f : ∀ q, q ≠ 2 → (q < 21 ∨ 50 < q) → g' q = g q) : RSc g' a := by
  unfold RSc
  rw [f 3 (by omega) (by omega), f 4 (by omega) (by omega), f 5 (by omega) (by omega), f 6 (by omega) (by omega), f 7 (by omega) (by omega), f 8 (by omega) (by omega), f 9 (by omega) (by omega), f 10 (by omega) (by omega)]; exact h
theorem s_X5_cutByHand {d : Nat} {dd : List (Nat × Nat)} {sh : Nat → Nat → Nat} {g : Nat → Nat → Int} {K : Int → (Nat → Nat → Int) → Prop} {v1 : Int} {a : Nat → Int} {n : Nat} (hS : RSc g a) (hH : RHc g a) (hn : a 4 = n) (h1 : i32 v1) (hK : ∀ c : Nat, v1 = c → c < 7 → (c : Int) < a 1 → ∀ g', HF g g' → RSc g' (upR a (60 + 4 * c) (1 - a (60 + 4 * c))) → (∀ b, keepB a b n → RHc g' b) → K 1 g') (hK0 : ¬ (0 ≤ v1 ∧ v1 < a 1) → K 0 g) : cI (d + 4) m_X5_cutByHand [(vR 118), (vI v1)] dd sh g K := by
  have em := hS.m
  refine mkI (ls := [some (vR 118), some (vI v1)]) rfl rfl rfl rfl rfl (r_X5_cutByHand_0 ?_)
  refine s_X7_hasScene hS h1 (fun h3 h4 => ?_) (fun h3 => ?_)
  · refine ⟨⟨by decide, by decide⟩, fun _ => ?_, fun h => absurd h (by decide)⟩
    refine s_X1_noteStep hS hH hn fun g' f1 f2 => ⟨by omega, by omega, ?_⟩
    obtain ⟨c, rfl⟩ := Int.eq_ofNat_of_zero_le h3
    refine hK c rfl (by omega) h4 _ (fun q hq hq2 hq3 hq4 => by rw [up_off hq2, f1 q hq hq4]) ?_ (fun b hb => ?_)
    · exact RS.cut (show RSc g' a from nsS hS f1) (by omega) h4 (fun k hk => by rw [up_at, if_neg hk]) (by rw [up_at, if_pos rfl]; rfl)
    · exact (f2 b hb).row2 fun q hq => up_off (by omega)
  · exact ⟨⟨by decide, by decide⟩, fun h => absurd rfl h, fun _ => hK0 (by omega)⟩
theorem s_X5_encoreByHand {d : Nat} {dd : List (Nat × Nat)} {sh : Nat → Nat → Nat} {g : Nat → Nat → Int} {K : Int → (Nat → Nat → Int) → Prop} {v1 : Int} {a : Nat → Int} {n : Nat} (hS : RSc g a) (hH : RHc g a) (hn : a 4 = n) (h1 : i32 v1) (hK : ∀ c : Nat, v1 = c → c < 7 → (c : Int) < a 1 → a (60 + 4 * c) = 0 → a (61 + 4 * c) = 0 → ∀ g', HF g g' → RSc g' (upR a (61 + 4 * c) 1) → (∀ b, keepB a b n → RHc g' b) → K 1 g') (hK0 : ¬ (0 ≤ v1 ∧ v1 < a 1 ∧ a (60 + 4 * v1.toNat) = 0 ∧ a (61 + 4 * v1.toNat) = 0) → K 0 g) : cI (d + 4) m_X5_encoreByHand [(vR 118), (vI v1)] dd sh g K := by
  have em := hS.m
  refine mkI (ls := [some (vR 118), some (vI v1)]) rfl rfl rfl rfl rfl (r_X5_encoreByHand_0 ?_)
  by_cases c0 : 0 ≤ v1 ∧ v1 < a 1
  · obtain ⟨c, rfl⟩ := Int.eq_ofNat_of_zero_le c0.1
    refine s_X7_canEncore hS (by omega) c0.2 (fun h3 h4 => ?_) (fun h3 => ?_)
    · refine ⟨⟨by decide, by decide⟩, fun _ => ?_, fun h => absurd h (by decide)⟩
      refine s_X1_noteStep hS hH hn fun g' f1 f2 => ⟨by omega, by omega, ?_⟩
      refine hK c rfl (by omega) c0.2 h3 h4 _ (fun q hq hq2 hq3 hq4 => by rw [up_off hq2, f1 q hq hq4]) ?_ (fun b hb => ?_)
      · exact RS.enc (show RSc g' a from nsS hS f1) (by omega) c0.2 (fun k hk => by rw [up_at, if_neg hk]) (by rw [up_at, if_pos rfl]; rfl)
      · exact (f2 b hb).row2 fun q hq => up_off (by omega)
    · exact ⟨⟨by decide, by decide⟩, fun h => absurd rfl h, fun _ => hK0 (fun ⟨_, _, h5, h6⟩ => by rw [show ((c : Int)).toNat = c from rfl] at h5 h6; omega)⟩
  · refine mkI (ls := [some (vR 3), some (vI v1)]) rfl rfl rfl rfl rfl (r_X7_canEncore_0 ?_)
    refine s_X7_hasScene hS h1 (fun h3 h4 => absurd ⟨h3, h4⟩ c0) (fun h3 => ?_)
    exact ⟨⟨by decide, by decide⟩, fun _ => ⟨⟨by decide, by decide⟩, fun h => absurd rfl h, fun _ => hK0 (fun h => c0 ⟨h.1, h.2.1⟩)⟩, fun h => absurd rfl h⟩
theorem s_X5_sendByHand {d : Nat} {dd : List (Nat × Nat)} {sh : Nat → Nat → Nat} {g : Nat → Nat → Int} {K : Int → (Nat → Nat → Int) → Prop} {v1 : Int} {a : Nat → Int} {n : Nat} (hS : RSc g a) (hH : RHc g a) (hn : a 4 = n) (h1 : i32 v1) (hK : ∀ c : Nat, v1 = c → c < 6 → (c : Int) < a 0 → ∀ g', HF g g' → RSc g' (upR a (20 + 7 * c) (1 - a (20 + 7 * c))) → (∀ b, keepB a b n → RHc g' b) → K 1 g') (hK0 : ¬ (0 ≤ v1 ∧ v1 < a 0) → K 0 g) : cI (d + 4) m_X5_sendByHand [(vR 118), (vI v1)] dd sh g K := by
  have em := hS.n
  refine mkI (ls := [some (vR 118), some (vI v1)]) rfl rfl rfl rfl rfl (r_X5_sendByHand_0 ?_)
  refine s_X7_hasSuspect hS h1 (fun h3 h4 => ?_) (fun h3 => ?_)
  · refine ⟨⟨by decide, by decide⟩, fun _ => ?_, fun h => absurd h (by decide)⟩
    refine s_X1_noteStep hS hH hn fun g' f1 f2 => ⟨by omega, by omega, ?_⟩
    obtain ⟨c, rfl⟩ := Int.eq_ofNat_of_zero_le h3
    refine hK c rfl (by omega) h4 _ (fun q hq hq2 hq3 hq4 => by rw [up_off hq2, f1 q hq hq4]) ?_ (fun b hb => ?_)
    · exact RS.away (show RSc g' a from nsS hS f1) (by omega) h4 (fun k hk => by rw [up_at, if_neg hk]) (by rw [up_at, if_pos rfl]; rfl)
    · exact (f2 b hb).row2 fun q hq => up_off (by omega)
  · exact ⟨⟨by decide, by decide⟩, fun h => absurd rfl h, fun _ => hK0 (by omega)⟩
theorem s_X5_seatByHand {d : Nat} {dd : List (Nat × Nat)} {sh : Nat → Nat → Nat} {g : Nat → Nat → Int} {K : Int → (Nat → Nat → Int) → Prop} {v1 v2 : Int} {a : Nat → Int} {n : Nat} (hS : RSc g a) (hH : RHc g a) (hn : a 4 = n) (h1 : i32 v1) (h2 : i32 v2) (hK : ∀ c : Nat, v1 = c → c < 6 → (c : Int) < a 0 → free a v2 → ∀ g', HF g g' → RSc g' (upR a (18 + 7 * c) v2) → (∀ b, keepB a b n → RHc g' b) → K 1 g') (hK0 : ¬ ((0 ≤ v1 ∧ v1 < a 0) ∧ free a v2) → K 0 g) : cI (d + 4) m_X5_seatByHand [(vR 118), (vI v1), (vI v2)] dd sh g K := by
  have em := hS.n
  refine mkI (ls := [some (vR 118), some (vI v1), some (vI v2)]) rfl rfl rfl rfl rfl (r_X5_seatByHand_0 ?_)
  refine s_X7_hasSuspect hS h1 (fun h3 h4 => ?_) (fun h3 => ?_)
  · refine ⟨⟨by decide, by decide⟩, fun h => absurd h (by decide), fun _ => ?_⟩
    refine s_X7_isFree hS h2 (fun hf => ?_) (fun hf => ?_)
    · refine ⟨⟨by decide, by decide⟩, fun _ => ?_, fun h => absurd h (by decide)⟩
      refine s_X1_noteStep hS hH hn fun g' f1 f2 => ⟨by omega, by omega, ?_⟩
      obtain ⟨c, rfl⟩ := Int.eq_ofNat_of_zero_le h3
      have hfb : 0 ≤ v2 ∧ v2 ≤ 39 := ⟨hf.1, by have := hf.2.1; omega⟩
      refine hK c rfl (by omega) h4 hf _ (fun q hq hq2 hq3 hq4 => by rw [up_off hq3, f1 q hq hq4]) ?_ (fun b hb => ?_)
      · exact RS.seat (show RSc g' a from nsS hS f1) (by omega) h4 hfb (fun k hk => by rw [up_at]; exact if_neg hk) (by rw [up_at]; exact if_pos rfl)
      · exact (f2 b hb).row2 fun q hq => up_off (by omega)
    · exact ⟨⟨by decide, by decide⟩, fun h => absurd rfl h, fun _ => hK0 (fun h => hf h.2)⟩
  · exact ⟨⟨by decide, by decide⟩, fun _ => hK0 (by omega), fun h => absurd rfl h⟩
-- how many are given, how many come
def gvF (a : Nat → Int) (c : Nat) : Int := if a (60 + 4 * c) = 0 then 1 else 0
theorem s_X7_howManyGiven {d : Nat} {dd : List (Nat × Nat)} {sh : Nat → Nat → Nat} {g : Nat → Nat → Int} {K : Int → (Nat → Nat → Int) → Prop} {a : Nat → Int} {m : Nat} (hS : RSc g a) (hm : a 1 = m) (hK : K (sm (gvF a) m) g) : cI (d + 2) m_X7_howManyGiven [(vR 3)] dd sh g K := by
  have em := hS.m
  have hb := hS.bits
  refine mkI (ls := [some (vR 3)]) rfl rfl rfl rfl rfl (r_X7_howManyGiven_0 ?_)
  refine s_X11_countBits (by omega) (by omega) ?_
  have e : g 3 7 - sm (bt (g 3 8)) 32 = sm (gvF a) m := by
    have e2 : sm (bt (g 3 8)) 32 = sm (bt (g 3 8)) m := by
      rw [bits_eq (q := 7) (by omega) (by omega) (by decide)]
      exact sm_zero (by omega) fun k h1 h2 => (hS.cr k h2 (by omega)).1
    have e3 : ∀ j, j ≤ m → sm (gvF a) j + sm (bt (g 3 8)) j = j := by
      intro j
      induction j with
      | zero => intro _; rfl
      | succ j ih =>
        intro hj
        have h1 := ih (by omega)
        have h2 := (hS.cc j (by omega) (by omega)).2.2.1
        have h3 := (hS.ab.cc j (by omega) (by omega)).2.2.1
        have h4 : gvF a j + bt (g 3 8) j = 1 := by unfold gvF; split <;> omega
        show sm (gvF a) j + gvF a j + (sm (bt (g 3 8)) j + bt (g 3 8) j) = ((j + 1 : Nat) : Int)
        omega
    have := e3 m (Nat.le_refl _)
    omega
  rw [e]; exact hK
theorem s_X12_given {d : Nat} {dd : List (Nat × Nat)} {sh : Nat → Nat → Nat} {g : Nat → Nat → Int} {K : Int → (Nat → Nat → Int) → Prop} {m : Nat} (hA : AB (g 135)) (hm : g 135 1 = m) (hK : K (sm (gvF (g 135)) m) g) : cI (d + 2) m_X12_given [(vR 134)] dd sh g K := by
  have em := hA.m
  refine mkI (ls := [some (vR 134), none, none]) rfl rfl rfl rfl rfl (r_X12_given_0 ?_)
  refine loop (P := fun k => rI (d + 1) m_X12_given 4 [some (vR 134), some (vI (sm (gvF (g 135)) k)), some (vI ((k : Int)))] [] dd sh g K) (n := m) ?_ ?_ 0 (by omega)
  · exact r_X12_given_4 ⟨⟨by omega, by omega⟩, ⟨by omega, by omega⟩, fun _ => hK, fun h => absurd h (by omega)⟩
  · intro k hk ih
    have ihx : rI (d + 1) m_X12_given 4 [some (vR 134), some (vI (sm (gvF (g 135)) (k + 1))), some (vI (((k + 1 : Nat) : Int)))] [] dd sh g K := ih
    rw [show sm (gvF (g 135)) (k + 1) = sm (gvF (g 135)) k + (gvF (g 135)) k from rfl] at ihx
    have ih1 : (gvF (g 135)) k = 1 → rI (d + 1) m_X12_given 4 [some (vR 134), some (vI (sm (gvF (g 135)) k + 1)), some (vI (((k + 1 : Nat) : Int)))] [] dd sh g K := fun h9 => by have h8 := ihx; rw [h9] at h8; exact h8
    have ih0 : (gvF (g 135)) k = 0 → rI (d + 1) m_X12_given 4 [some (vR 134), some (vI (sm (gvF (g 135)) k + 0)), some (vI (((k + 1 : Nat) : Int)))] [] dd sh g K := fun h9 => by have h8 := ihx; rw [h9] at h8; exact h8
    have ih00 : (gvF (g 135)) k = 0 → rI (d + 1) m_X12_given 4 [some (vR 134), some (vI (sm (gvF (g 135)) k)), some (vI (((k + 1 : Nat) : Int)))] [] dd sh g K := fun h9 => by have h8 := ihx; rw [h9, Int.add_zero] at h8; exact h8
    have hc := hA.cc k (by omega) (by omega)
    refine r_X12_given_4 ⟨⟨by omega, by omega⟩, ⟨by omega, by omega⟩, fun h => absurd h (by omega), fun _ => ?_⟩
    refine s_of2 (by omega) ⟨by omega, fun h => ih0 (if_neg h), fun h => ih1 (if_pos h)⟩
def cmF (a : Nat → Int) (p : Nat) : Int := a (20 + 7 * p)
theorem s_X7_howManyCome {d : Nat} {dd : List (Nat × Nat)} {sh : Nat → Nat → Nat} {g : Nat → Nat → Int} {K : Int → (Nat → Nat → Int) → Prop} {a : Nat → Int} {m : Nat} (hS : RSc g a) (hm : a 0 = m) (hK : K (sm (cmF a) m) g) : cI (d + 2) m_X7_howManyCome [(vR 3)] dd sh g K := by
  have em := hS.n
  have hb := hS.bits
  refine mkI (ls := [some (vR 3)]) rfl rfl rfl rfl rfl (r_X7_howManyCome_0 ?_)
  refine s_X11_countBits (by omega) (by omega) ?_
  have e : g 3 0 - sm (bt (g 3 2)) 32 = sm (cmF a) m := by
    have e2 : sm (bt (g 3 2)) 32 = sm (bt (g 3 2)) m := by
      rw [bits_eq (q := 6) (by omega) (by omega) (by decide)]
      exact sm_zero (by omega) fun k h1 h2 => (hS.pr k h2 (by omega)).2.1
    have e3 : ∀ j, j ≤ m → sm (cmF a) j + sm (bt (g 3 2)) j = j := by
      intro j
      induction j with
      | zero => intro _; rfl
      | succ j ih =>
        intro hj
        have h1 := ih (by omega)
        have h2 := (hS.pp j (by omega) (by omega)).2.2.2.2.1
        have h4 : cmF a j + bt (g 3 2) j = 1 := by unfold cmF; omega
        show sm (cmF a) j + cmF a j + (sm (bt (g 3 2)) j + bt (g 3 2) j) = ((j + 1 : Nat) : Int)
        omega
    have := e3 m (Nat.le_refl _)
    omega
  rw [e]; exact hK
theorem AB.up {a b : Nat → Int} {j : Nat} {v : Int} {n : Nat} (hA : AB (upR a j v)) (hj : 16 ≤ j ∧ j < 86) (hb : keepB a b n) : AB (upR b j v) := by
  have e : ∀ k, k ≠ 4 → (k < 184 ∨ 2524 ≤ k) → upR b j v k = upR a j v k := fun k h1 h2 => by
    by_cases hk : k = j
    · subst hk; rw [upR_at, upR_at]
    · rw [upR_off hk, upR_off hk, hb.1 k h1 h2]
  unfold AB
  rw [e 0 (by omega) (by omega), e 1 (by omega) (by omega), e 10 (by omega) (by omega), e 11 (by omega) (by omega), e 12 (by omega) (by omega), e 13 (by omega) (by omega)]
  refine ⟨hA.n, hA.m, hA.night, hA.tak, hA.x, hA.wr, fun p hp hq => ?_, fun c hc hq => ?_, fun i hi => ?_⟩
  · rw [e (16 + 7 * p) (by omega) (by omega), e (17 + 7 * p) (by omega) (by omega), e (18 + 7 * p) (by omega) (by omega), e (19 + 7 * p) (by omega) (by omega), e (20 + 7 * p) (by omega) (by omega), e (21 + 7 * p) (by omega) (by omega)]; exact hA.pp p hp hq
  · rw [e (58 + 4 * c) (by omega) (by omega), e (59 + 4 * c) (by omega) (by omega), e (60 + 4 * c) (by omega) (by omega), e (61 + 4 * c) (by omega) (by omega)]; exact hA.cc c hc hq
  · rw [e (2524 + i) (by omega) (by omega)]; exact hA.bk i hi
theorem s_X12_cut {d : Nat} {dd : List (Nat × Nat)} {sh : Nat → Nat → Nat} {g : Nat → Nat → Int} {K : Int → (Nat → Nat → Int) → Prop} {v1 : Int} {n : Nat} (hA : AB (g 135)) (hn : g 135 4 = n) (hn2 : n ≤ 30) (h1 : i32 v1) (hK : ∀ c : Nat, v1 = c → c < 7 → (c : Int) < g 135 1 → AB (upR (g 135) (60 + 4 * c) (1 - g 135 (60 + 4 * c))) ∧ ∀ b g', keepB (g 135) b n → (∀ q, q ≠ 135 → g' q = g q) → g' 135 = upR b (60 + 4 * c) (1 - g 135 (60 + 4 * c)) → K (sm (gvF (upR (g 135) (60 + 4 * c) (1 - g 135 (60 + 4 * c)))) (g 135 1).toNat) g') (hK0 : ¬ (0 ≤ v1 ∧ v1 < g 135 1) → K (-1) g) : cI (d + 4) m_X12_cut [(vR 134), (vI v1)] dd sh g K := by
  have em := hA.m
  refine mkI (ls := [some (vR 134), some (vI v1)]) rfl rfl rfl rfl rfl (r_X12_cut_0 ?_)
  refine s_X12_isScene em h1 (fun h3 h4 => ?_) (fun h3 => ?_)
  · refine ⟨⟨by decide, by decide⟩, fun _ => ?_, fun h => absurd h (by decide)⟩
    obtain ⟨c, rfl⟩ := Int.eq_ofNat_of_zero_le h3
    obtain ⟨hAB, hk⟩ := hK c rfl (by omega) h4
    refine s_X12_keep hn hn2 fun g1 f1 f2 => ?_
    refine s_of2 (by omega) (s_lay2 (by omega) ?_)
    have e60 : g1 135 (60 + 4 * c) = g 135 (60 + 4 * c) := f2.1 _ (by omega) (by omega)
    rw [e60]
    have e135 : (up g1 135 (60 + 4 * c) (1 - g 135 (60 + 4 * c))) 135 = upR (g1 135) (60 + 4 * c) (1 - g 135 (60 + 4 * c)) := rfl
    have e1 : upR (g1 135) (60 + 4 * c) (1 - g 135 (60 + 4 * c)) 1 = g 135 1 := by rw [upR_off (by omega), f2.1 1 (by omega) (by omega)]
    refine s_X12_given (m := (g 135 1).toNat) (by rw [e135]; exact hAB.up (by omega) f2) (by rw [e135, e1]; omega) ?_
    have := hk (g1 135) (up g1 135 (60 + 4 * c) (1 - g 135 (60 + 4 * c))) f2 (fun q hq => by rw [up_off hq, f1 q hq]) rfl
    rw [sm_congr (f' := gvF (upR (g 135) (60 + 4 * c) (1 - g 135 (60 + 4 * c)))) fun k hk2 => ?_]
    · exact this
    · rw [e135]
      unfold gvF upR
      rw [f2.1 (60 + 4 * k) (by omega) (by omega)]
  · exact ⟨⟨by decide, by decide⟩, fun h => absurd rfl h, fun _ => hK0 (by omega)⟩
theorem sim_cut : S_cut := by
  intro dd sh g hI a1 h1
  have hst := hI.h.st
  obtain ⟨n, hn⟩ := Int.eq_ofNat_of_zero_le hst.2.1
  have hA := hI.s.ab
  have em := hA.m
  unfold SimI
  refine mkI (ls := [some (vR 1), some (vI a1)]) rfl rfl rfl rfl rfl (r_X11_cut_0 ?_)
  refine s_X5_cutByHand hI.s hI.h hn h1 (fun c e hc hq g1 f hS hH => ?_) (fun h => ?_)
  · subst e
    refine ⟨⟨by decide, by decide⟩, fun h => absurd h (by decide), fun _ => ?_⟩
    have e1 : upR (g 135) (60 + 4 * c) (1 - g 135 (60 + 4 * c)) 1 = g 135 1 := upR_off (by omega)
    refine s_X7_howManyGiven (m := (g 135 1).toNat) hS (by rw [e1]; omega) ?_
    have e135 := f 135 (by omega) (by omega) (by omega) (by omega)
    refine s_X12_cut (n := n) (by rw [e135]; exact hA) (by rw [e135]; exact hn) (by omega) h1 (fun c' e' hc' hq' => ?_) (fun h => absurd h (by rw [e135]; omega))
    have ecc : c' = c := by omega
    subst ecc
    rw [e135]
    refine ⟨hS.ab, fun b g3 hb r e3 => ⟨rfl, ?_, hI.hand f (by omega) (fun p hp => by omega) hS hH hb r e3⟩⟩
    have hb2 := sm_bound (f := gvF (upR (g 135) (60 + 4 * c') (1 - g 135 (60 + 4 * c')))) (n := (g 135 1).toNat) (B := 1) fun k _ => by unfold gvF; split <;> omega
    exact ⟨by omega, by omega⟩
  · refine ⟨⟨by decide, by decide⟩, fun _ => ?_, fun h => absurd rfl h⟩
    refine mkI (ls := [some (vR 134), some (vI a1)]) rfl rfl rfl rfl rfl (r_X12_cut_0 ?_)
    refine s_X12_isScene em h1 (fun h3 h4 => absurd ⟨h3, h4⟩ h) (fun h3 => ?_)
    exact ⟨⟨by decide, by decide⟩, fun h => absurd rfl h, fun _ => ⟨rfl, ⟨by decide, by decide⟩, hI⟩⟩
set_option maxRecDepth 8000 in
theorem sim_encore : S_encore := by
  intro dd sh g hI a1 h1
  have hst := hI.h.st
  obtain ⟨n, hn⟩ := Int.eq_ofNat_of_zero_le hst.2.1
  have hA := hI.s.ab
  have em := hA.m
  unfold SimI
  refine mkI (ls := [some (vR 1), some (vI a1)]) rfl rfl rfl rfl rfl (r_X11_encore_0 ?_)
  refine s_X5_encoreByHand hI.s hI.h hn h1 (fun c e hc hq hc0 hc1 g1 f hS hH => ?_) (fun h => ?_)
  · subst e
    refine ⟨Or.inr rfl, ?_⟩
    have e135 := f 135 (by omega) (by omega) (by omega) (by omega)
    refine mkI (ls := [some (vR 134), some (vI ((c : Int)))]) rfl rfl rfl rfl rfl (r_X12_encore_0 ?_)
    refine s_X12_isScene (by rw [e135]; exact em) h1 (fun _ _ => ?_) (fun h => absurd h (by rw [e135]; omega))
    refine ⟨⟨by decide, by decide⟩, fun h => absurd h (by decide), fun _ => ?_⟩
    refine mkI (ls := [some (vR 134), some (vI ((c : Int)))]) rfl rfl rfl rfl rfl (r_X12_canEncore_0 ?_)
    refine s_of2 (by omega) ?_
    rw [e135, hc0]
    refine ⟨⟨by decide, by decide⟩, fun h => absurd rfl h, fun _ => ?_⟩
    refine s_of3 (by omega) ?_
    rw [e135, hc1]
    refine ⟨⟨by decide, by decide⟩, fun h => absurd rfl h, fun _ => ⟨⟨by decide, by decide⟩, fun _ => ?_, fun h => absurd h (by decide)⟩⟩
    refine s_X12_keep (n := n) (by rw [e135]; exact hn) (by omega) fun g2 f1 f2 => ?_
    refine s_lay3 (by omega) ⟨rfl, ⟨by decide, by decide⟩, ?_⟩
    rw [e135] at f2
    exact hI.hand f (by omega) (fun p hp => by omega) hS hH f2 (fun q hq => by rw [up_off hq, f1 q hq]) rfl
  · refine ⟨Or.inl rfl, ?_⟩
    refine mkI (ls := [some (vR 134), some (vI a1)]) rfl rfl rfl rfl rfl (r_X12_encore_0 ?_)
    refine s_X12_isScene em h1 (fun h3 h4 => ?_) (fun h3 => ?_)
    · refine ⟨⟨by decide, by decide⟩, fun h => absurd h (by decide), fun _ => ?_⟩
      obtain ⟨c, rfl⟩ := Int.eq_ofNat_of_zero_le h3
      rw [show ((c : Int)).toNat = c from rfl] at h
      have hcc := hA.cc c (by omega) h4
      refine mkI (ls := [some (vR 134), some (vI ((c : Int)))]) rfl rfl rfl rfl rfl (r_X12_canEncore_0 ?_)
      repeat' (first
        | (refine imp_mk ?_; intro hh; first | contradiction | (exfalso; omega) | skip)
        | (refine s_of2 (by omega) ?_)
        | (refine s_of3 (by omega) ?_)
        | (exact hI)
        | (exact absurd ⟨by omega, by omega, by omega, by omega⟩ h)
        | refine And.intro ?_ ?_
        | omega)
    · exact ⟨⟨by decide, by decide⟩, fun _ => ⟨rfl, ⟨by decide, by decide⟩, hI⟩, fun h => absurd rfl h⟩
theorem sim_seat : S_seat := by
  intro dd sh g hI a1 a2 h1 h2
  have hst := hI.h.st
  obtain ⟨n, hn⟩ := Int.eq_ofNat_of_zero_le hst.2.1
  have hA := hI.s.ab
  have em := hA.n
  unfold SimI
  refine mkI (ls := [some (vR 1), some (vI a1), some (vI a2)]) rfl rfl rfl rfl rfl (r_X11_seat_0 ?_)
  refine s_X5_seatByHand hI.s hI.h hn h1 h2 (fun c e hc hq hf g1 f hS hH => ?_) (fun h => ?_)
  · subst e
    refine ⟨Or.inr rfl, ?_⟩
    have e135 := f 135 (by omega) (by omega) (by omega) (by omega)
    refine mkI (ls := [some (vR 134), some (vI ((c : Int))), some (vI a2)]) rfl rfl rfl rfl rfl (r_X12_seat_0 ?_)
    refine s_X12_isSuspect (by rw [e135]; exact em) h1 (fun _ _ => ?_) (fun h => absurd h (by rw [e135]; omega))
    refine ⟨⟨by decide, by decide⟩, fun h => absurd h (by decide), fun _ => ?_⟩
    refine s_X12_isFree (by rw [e135]; exact hA) h2 (fun _ => ?_) (fun h => absurd (by rw [e135]; exact hf) h)
    refine ⟨⟨by decide, by decide⟩, fun _ => ?_, fun h => absurd h (by decide)⟩
    refine s_X12_keep (n := n) (by rw [e135]; exact hn) (by omega) fun g2 f1 f2 => ?_
    refine s_put2 (by omega) ⟨rfl, ⟨by decide, by decide⟩, ?_⟩
    rw [e135] at f2
    exact hI.hand f (by omega) (fun p hp => by omega) hS hH f2 (fun q hq => by rw [up_off hq, f1 q hq]) rfl
  · refine ⟨Or.inl rfl, ?_⟩
    refine mkI (ls := [some (vR 134), some (vI a1), some (vI a2)]) rfl rfl rfl rfl rfl (r_X12_seat_0 ?_)
    refine s_X12_isSuspect em h1 (fun h3 h4 => ?_) (fun h3 => ?_)
    · refine ⟨⟨by decide, by decide⟩, fun h => absurd h (by decide), fun _ => ?_⟩
      refine s_X12_isFree hA h2 (fun hf => absurd ⟨⟨h3, h4⟩, hf⟩ h) (fun _ => ?_)
      exact ⟨⟨by decide, by decide⟩, fun h => absurd rfl h, fun _ => ⟨rfl, ⟨by decide, by decide⟩, hI⟩⟩
    · exact ⟨⟨by decide, by decide⟩, fun _ => ⟨rfl, ⟨by decide, by decide⟩, hI⟩, fun h => absurd rfl h⟩
theorem s_X12_away {d : Nat} {dd : List (Nat × Nat)} {sh : Nat → Nat → Nat} {g : Nat → Nat → Int} {K : Int → (Nat → Nat → Int) → Prop} {v1 : Int} {n : Nat} (hA : AB (g 135)) (hn : g 135 4 = n) (hn2 : n ≤ 30) (h1 : i32 v1) (hK : ∀ c : Nat, v1 = c → c < 6 → (c : Int) < g 135 0 → ∀ b g', keepB (g 135) b n → (∀ q, q ≠ 135 → g' q = g q) → g' 135 = upR b (20 + 7 * c) (1 - g 135 (20 + 7 * c)) → K (sm (cmF (upR (g 135) (20 + 7 * c) (1 - g 135 (20 + 7 * c)))) (g 135 0).toNat) g') (hK0 : ¬ (0 ≤ v1 ∧ v1 < g 135 0) → K (-1) g) : cI (d + 4) m_X12_away [(vR 134), (vI v1)] dd sh g K := by
  have em := hA.n
  refine mkI (ls := [some (vR 134), some (vI v1), none, none]) rfl rfl rfl rfl rfl (r_X12_away_0 ?_)
  refine s_X12_isSuspect em h1 (fun h3 h4 => ?_) (fun h3 => ?_)
  · refine ⟨⟨by decide, by decide⟩, fun _ => ?_, fun h => absurd h (by decide)⟩
    obtain ⟨c, rfl⟩ := Int.eq_ofNat_of_zero_le h3
    have hk := hK c rfl (by omega) h4
    refine s_X12_keep hn hn2 fun g1 f1 f2 => ?_
    refine s_get4 (by omega) (s_put4 (by omega) ?_)
    have e60 : g1 135 (20 + 7 * c) = g 135 (20 + 7 * c) := f2.1 _ (by omega) (by omega)
    rw [e60]
    have hk2 := hk (g1 135) (up g1 135 (20 + 7 * c) (1 - g 135 (20 + 7 * c))) f2 (fun q hq => by rw [up_off hq, f1 q hq]) rfl
    have e1 : (up g1 135 (20 + 7 * c) (1 - g 135 (20 + 7 * c))) 135 0 = g 135 0 := by rw [up_at, if_neg (by omega), f2.1 0 (by omega) (by omega)]
    refine loop (P := fun k => rI (d + 3) m_X12_away 32 [some (vR 134), none, some (vI (sm (cmF (upR (g 135) (20 + 7 * c) (1 - g 135 (20 + 7 * c)))) k)), some (vI ((k : Int)))] [] dd sh ((up g1 135 (20 + 7 * c) (1 - g 135 (20 + 7 * c)))) K) (n := (g 135 0).toNat) ?_ ?_ 0 (by omega)
    · refine r_X12_away_32 ?_
      rw [e1]
      exact ⟨⟨by omega, by omega⟩, ⟨by omega, by omega⟩, fun _ => hk2, fun h => absurd h (by omega)⟩
    · intro k hk3 ih
      refine r_X12_away_32 ?_
      rw [e1]
      refine ⟨⟨by omega, by omega⟩, ⟨by omega, by omega⟩, fun h => absurd h (by omega), fun _ => ?_⟩
      refine s_get4 (by omega) ?_
      have e5 : (up g1 135 (20 + 7 * c) (1 - g 135 (20 + 7 * c))) 135 (20 + 7 * k) = cmF (upR (g 135) (20 + 7 * c) (1 - g 135 (20 + 7 * c))) k := by
        unfold cmF upR
        rw [up_at, f2.1 (20 + 7 * k) (by omega) (by omega)]
      rw [e5]
      exact ih
  · exact ⟨⟨by decide, by decide⟩, fun h => absurd rfl h, fun _ => hK0 (by omega)⟩
theorem sim_away : S_away := by
  intro dd sh g hI a1 h1
  have hst := hI.h.st
  obtain ⟨n, hn⟩ := Int.eq_ofNat_of_zero_le hst.2.1
  have hA := hI.s.ab
  have em := hA.n
  unfold SimI
  refine mkI (ls := [some (vR 1), some (vI a1)]) rfl rfl rfl rfl rfl (r_X11_away_0 ?_)
  refine s_X5_sendByHand hI.s hI.h hn h1 (fun c e hc hq g1 f hS hH => ?_) (fun h => ?_)
  · subst e
    refine ⟨⟨by decide, by decide⟩, fun h => absurd h (by decide), fun _ => ?_⟩
    have e1 : upR (g 135) (20 + 7 * c) (1 - g 135 (20 + 7 * c)) 0 = g 135 0 := upR_off (by omega)
    refine s_X7_howManyCome (m := (g 135 0).toNat) hS (by rw [e1]; omega) ?_
    have e135 := f 135 (by omega) (by omega) (by omega) (by omega)
    refine s_X12_away (n := n) (by rw [e135]; exact hA) (by rw [e135]; exact hn) (by omega) h1 (fun c' e' hc' hq' => ?_) (fun h => absurd h (by rw [e135]; omega))
    have ecc : c' = c := by omega
    subst ecc
    rw [e135]
    refine fun b g3 hb r e3 => ⟨rfl, ?_, hI.hand f (by omega) (fun p hp => by omega) hS hH hb r e3⟩
    have hb2 := sm_bound (f := cmF (upR (g 135) (20 + 7 * c') (1 - g 135 (20 + 7 * c')))) (n := (g 135 0).toNat) (B := 1) fun k hk => (hS.ab.pp k (by omega) (by rw [e1]; omega)).2.2.2.2.1
    exact ⟨by omega, by omega⟩
  · refine ⟨⟨by decide, by decide⟩, fun _ => ?_, fun h => absurd rfl h⟩
    refine mkI (ls := [some (vR 134), some (vI a1), none, none]) rfl rfl rfl rfl rfl (r_X12_away_0 ?_)
    refine s_X12_isSuspect em h1 (fun h3 h4 => absurd ⟨h3, h4⟩ h) (fun h3 => ?_)
    exact ⟨⟨by decide, by decide⟩, fun h => absurd rfl h, fun _ => ⟨rfl, ⟨by decide, by decide⟩, hI⟩⟩
