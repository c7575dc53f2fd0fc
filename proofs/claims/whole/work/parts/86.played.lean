-- scripts: clauses one after another
theorem s_X5_nightsQ {d : Nat} {dd : List (Nat × Nat)} {sh : Nat → Nat → Nat} {g : Nat → Nat → Int} {K : Int → (Nat → Nat → Int) → Prop} {a : Nat → Int} {n m N M : Nat} {y : Int} (hS : RSc g a) (hH : RHc g a) (hX : RXt dd sh g a (g 137)) (hn : a 0 = n) (hm : a 1 = m) (hMN : M ≤ N) (hN6 : N ≤ 60) (hM : a 10 + M ≤ 9999) (hE : M = N ∨ a 10 + M = 9999)
    (hK : ∀ g', HN g g' → RSc g' (nit (g 137) n m a y M).1 → RHc g' (nit (g 137) n m a y M).1 → (∀ i, i ≤ M → NI (g 137) n m a y i) → K (if M = N then (nit (g 137) n m a y M).2.1 else -1) g') : cI (d + 8) m_X5_nightsByHand [(vR 118), (vI ((N : Int)))] dd sh g K := by
  have en := hS.n
  have em := hS.m
  have hnt := hS.night
  refine mkI (ls := [some (vR 118), some (vI ((N : Int))), none, none]) rfl rfl rfl rfl rfl (r_X5_nightsByHand_0 ?_)
  refine loop (P := fun j => ∀ g', HN g g' → RSc g' (nit (g 137) n m a y j).1 → RHc g' (nit (g 137) n m a y j).1 → (∀ i, i ≤ j → NI (g 137) n m a y i) → rI (d + 7) m_X5_nightsByHand 4 [some (vR 118), some (vI ((N : Int))), some (vI ((nit (g 137) n m a y j).2.1)), some (vI ((j : Int)))] [] dd sh (g') K) (n := M) ?_ ?_ 0 (by omega) g (fun _ _ _ _ _ _ _ => rfl) hS hH (fun i hi => ?_)
  · intro g' f hS' hH' hNI
    have hk := hK g' f hS' hH' hNI
    have z10 := nit_10 (T := g 137) (n := n) (m := m) (a := a) (y := y) M
    have hntj := hS'.night
    by_cases e : M = N
    · rw [if_pos e] at hk
      exact r_X5_nightsByHand_4 ⟨⟨by omega, by omega⟩, ⟨by omega, by omega⟩, fun _ => hk, fun h => absurd h (by omega)⟩
    · rw [if_neg e] at hk
      exact r_X5_nightsByHand_4 ⟨⟨by omega, by omega⟩, ⟨by omega, by omega⟩, fun h => absurd h (by omega), fun _ => ⟨⟨by omega, by omega⟩, fun h => absurd h (by omega), fun _ => hk⟩⟩
  · intro j hj ih g' f hS' hH' hNI
    have z0 : (nit (g 137) n m a y j).1 0 = n := by rw [nit_lo (by omega) (by omega) (by omega) (by omega) (fun p hp => by omega) (fun c hc => by omega)]; exact hn
    have z1 : (nit (g 137) n m a y j).1 1 = m := by rw [nit_lo (by omega) (by omega) (by omega) (by omega) (fun p hp => by omega) (fun c hc => by omega)]; exact hm
    have z2 : (nit (g 137) n m a y j).1 2 = a 2 := nit_lo (by omega) (by omega) (by omega) (by omega) (fun p hp => by omega) (fun c hc => by omega) j
    have z10 := nit_10 (T := g 137) (n := n) (m := m) (a := a) (y := y) j
    have hst := hH'.st
    have hntj := hS'.night
    have hNIj := hNI j (Nat.le_refl _)
    have e7 : g' 137 = g 137 := f 137 (by decide) (by decide) (by decide) (by decide) (by decide) (by decide)
    have hsucc : nit (g 137) n m a y (j + 1) = paS true (g 137) n m (kpA (nit (g 137) n m a y j).1, (nit (g 137) n m a y j).2) := rfl
    obtain ⟨k4, hk4⟩ := Int.eq_ofNat_of_zero_le hst.2.1
    refine r_X5_nightsByHand_4 ⟨⟨by omega, by omega⟩, ⟨by omega, by omega⟩, fun h => absurd h (by omega), fun _ => ⟨⟨by omega, by omega⟩, fun _ => ?_, fun h => absurd h (by omega)⟩⟩
    refine s_X1_noteStep hS' hH' hk4 fun g2 f2 hb2 => ?_
    have hS2 : RSc g2 (kpA (nit (g 137) n m a y j).1) := RS.fr (nsS hS' f2) (fun k hk => kpA_lo (by omega) (by omega)) (fun p q hp hq => kpA_lo (by omega) (by omega))
    have hH2 := hb2 _ (kpA_keepB hk4 (by omega))
    have k0 : kpA (nit (g 137) n m a y j).1 0 = n := by rw [kpA_lo (by decide) (by decide)]; exact z0
    have k1 : kpA (nit (g 137) n m a y j).1 1 = m := by rw [kpA_lo (by decide) (by decide)]; exact z1
    have k10 : kpA (nit (g 137) n m a y j).1 10 = a 10 + j := by rw [kpA_lo (by decide) (by decide)]; exact z10
    have e72 : g2 137 = g 137 := by rw [f2 137 (by decide) (by decide)]; exact e7
    have hX2 : RXt dd sh g2 (kpA (nit (g 137) n m a y j).1) (g2 137) := by
      rw [e72]
      exact hX.fr (by rw [kpA_lo (by decide) (by decide)]; exact z2) fun q hq => by rw [f2 q (by omega) (by omega)]; exact f q (by omega) (by omega) (by omega) (by omega) (by omega) (by omega)
    refine s_X5_giveNight hH2 hX2 k0 k1 hS2 NF.rf (by omega) fun g3 f3 hS3 _ => ?_
    rw [e72] at hS3 ⊢
    have hsh := paS_Sh (w := true) (T := g 137) (n := n) (m := m) (x := (nit (g 137) n m a y j).2.1) (s := (kpA (nit (g 137) n m a y j).1, (nit (g 137) n m a y j).2)) (s' := (kpA (nit (g 137) n m a y j).1, 0, 0)) ⟨rfl, (Int.add_zero _).symm⟩
    rw [← hsh.1] at hS3
    rw [← hsh.2]
    have hA3 := hS3.ab
    have hcnt := gA_cnt true (g 137) (n := n) (m := m) (kpA (nit (g 137) n m a y j).1, (nit (g 137) n m a y j).2) (by omega) (by omega) hS2.ab k0 k1
    have hH3 : RHc g3 (nit (g 137) n m a y (j + 1)).1 := by
      rw [hsucc]
      refine RHc.fr hH2 (fun q hq => f3 q (by omega) (by omega) (by omega) (by omega)) (fun k hk => ?_) ?_ ?_
      · exact paS_off (by omega) (by omega) (by omega) (fun p hp => by omega) (fun c hc => by omega)
      · rw [paS_off (by omega) (by omega) (by omega) (fun p hp => by omega) (fun c hc => by omega)]; exact Int.le_refl _
      · rw [paS_off (by omega) (by omega) (by omega) (fun p hp => by omega) (fun c hc => by omega)]; exact Int.le_refl _
    refine ih g3 (fun q h1 h2 h3 h4 h5 h6 => ?_) hS3 hH3 fun i hi => ?_
    · rw [f3 q h2 h3 h4 h6, f2 q h1 h5]; exact f q h1 h2 h3 h4 h5 h6
    · by_cases hij : i = j + 1
      · subst hij
        have c2 : 0 ≤ (nit (g 137) n m a y j).2.1 ∧ (nit (g 137) n m a y j).2.1 ≤ 84 * j := hNIj.2.2
        have c3 : (nit (g 137) n m a y j).2.1 ≤ (nit (g 137) n m a y (j + 1)).2.1 ∧ (nit (g 137) n m a y (j + 1)).2.1 ≤ (nit (g 137) n m a y j).2.1 + 84 := hcnt
        exact ⟨hA3, hH3.st.2, by omega, by omega⟩
      · exact hNI i (by omega)
  · have e : i = 0 := by omega
    subst e
    exact ⟨hS.ab, hH.st.2, by show (0 : Int) ≤ 0; decide, by show (0 : Int) ≤ 84 * ((0 : Nat) : Int); decide⟩
/-- a clause turns the row a into b and answers r -/
def PL (T : Nat → Int) (kk v w : Int) (a b : Nat → Int) (r : Int) : Prop :=
  ((kk < 3 ∨ 10 < kk) ∧ b = a ∧ r = 1) ∨
  ((kk = 3 ∨ kk = 4) ∧ ((((0 ≤ v ∧ v ≤ 9) ∧ free a w ∧ (a 0).toNat < 6) ∧ susB a b (a 0).toNat (kk - 3) v w ∧ r = 1) ∨ (¬ ((0 ≤ v ∧ v ≤ 9) ∧ free a w ∧ (a 0).toNat < 6) ∧ b = a ∧ r = 0))) ∨
  (kk = 5 ∧ ((((0 ≤ v ∧ v ≤ 9) ∧ (1 ≤ w ∧ w ≤ 9) ∧ (a 1).toNat < 7) ∧ scB a b (a 1).toNat v w ∧ r = 1) ∨ (¬ ((0 ≤ v ∧ v ≤ 9) ∧ (1 ≤ w ∧ w ≤ 9) ∧ (a 1).toNat < 7) ∧ b = a ∧ r = 0))) ∨
  (kk = 6 ∧ ((∃ c : Nat, v = c ∧ c < 7 ∧ (c : Int) < a 1 ∧ b = upR (kpA a) (60 + 4 * c) (1 - a (60 + 4 * c)) ∧ r = 1) ∨ (¬ (0 ≤ v ∧ v < a 1) ∧ b = a ∧ r = 0))) ∨
  (kk = 7 ∧ ((∃ c : Nat, v = c ∧ c < 7 ∧ (c : Int) < a 1 ∧ a (60 + 4 * c) = 0 ∧ a (61 + 4 * c) = 0 ∧ b = upR (kpA a) (61 + 4 * c) 1 ∧ r = 1) ∨ (¬ (0 ≤ v ∧ v < a 1 ∧ a (60 + 4 * v.toNat) = 0 ∧ a (61 + 4 * v.toNat) = 0) ∧ b = a ∧ r = 0))) ∨
  (kk = 8 ∧ ((∃ c : Nat, v = c ∧ c < 6 ∧ (c : Int) < a 0 ∧ b = upR (kpA a) (20 + 7 * c) (1 - a (20 + 7 * c)) ∧ r = 1) ∨ (¬ (0 ≤ v ∧ v < a 0) ∧ b = a ∧ r = 0))) ∨
  (kk = 9 ∧ ((∃ c : Nat, v = c ∧ c < 6 ∧ (c : Int) < a 0 ∧ free a w ∧ b = upR (kpA a) (18 + 7 * c) w ∧ r = 1) ∨ (¬ ((0 ≤ v ∧ v < a 0) ∧ free a w) ∧ b = a ∧ r = 0))) ∨
  (kk = 10 ∧ ∃ N M : Nat, v = N ∧ M ≤ N ∧ N ≤ 60 ∧ a 10 + M ≤ 9999 ∧ (M = N ∨ a 10 + M = 9999) ∧ (∀ i, i ≤ M → NI T (a 0).toNat (a 1).toNat a 0 i) ∧ b = (nit T (a 0).toNat (a 1).toNat a 0 M).1 ∧ r = if M = N then 1 else 0)
/-- what the class's clauses leave -/
def PF (g g' : Nat → Nat → Int) : Prop := ∀ q, 11 ≤ q → (q < 21 ∨ 50 < q) → (q < 116 ∨ 119 < q) → g' q = g q
theorem PF.rf {g : Nat → Nat → Int} : PF g g := fun _ _ _ _ => rfl
theorem PF.tr {g g' g'' : Nat → Nat → Int} (h : PF g g') (h' : PF g' g'') : PF g g'' := fun q a b c => by rw [h' q a b c, h q a b c]
theorem RNc.pf {g g' : Nat → Nat → Int} {b : Nat → Int} (f : PF g g') (h : RNc g b) : RNc g' b := by
  unfold RNc
  rw [f 12 (by decide) (by decide) (by decide), f 13 (by decide) (by decide) (by decide), f 14 (by decide) (by decide) (by decide), f 16 (by decide) (by decide) (by decide), f 17 (by decide) (by decide) (by decide), f 18 (by decide) (by decide) (by decide), f 19 (by decide) (by decide) (by decide)]
  exact h
def CSt (g : Nat → Nat → Int) (a0 a : Nat → Int) : Prop := RSc g a ∧ RNc g a ∧ RHc g a ∧ a 2 = a0 2 ∧ a 3 = a0 3
theorem hand_CSt {g g' : Nat → Nat → Int} {a0 a : Nat → Int} {n j : Nat} {v : Int} (hC : CSt g a0 a) (hn : a 4 = (n : Int)) (hn2 : n ≤ 30) (f : PF g g') (hj : 16 ≤ j ∧ j < 86) (hjw : ∀ p : Nat, p < 6 → j ≠ 22 + 7 * p) (hS : RSc g' (upR a j v)) (hH : ∀ b, keepB a b n → RHc g' b) : CSt g' a0 (upR (kpA a) j v) := by
  have eb : ∀ k, k ≠ 4 → (k < 184 ∨ 2524 ≤ k) → upR (kpA a) j v k = upR a j v k := fun k h1 h2 => by
    by_cases hk : k = j
    · subst hk; rw [upR_at, upR_at]
    · rw [upR_off hk, upR_off hk, kpA_lo h1 h2]
  have ea : ∀ k, k ≠ 4 → (k < 184 ∨ 2524 ≤ k) → k ≠ j → upR (kpA a) j v k = a k := fun k h1 h2 h3 => by rw [eb k h1 h2, upR_off h3]
  refine ⟨?_, ?_, ?_, ?_, ?_⟩
  · exact RS.fr hS (fun k hk => eb k (by omega) (by omega)) (fun p q hp hq => eb _ (by omega) (by omega))
  · exact RNc.pf f (RN.fr hC.2.1 (fun k hk => ea k (by omega) (by omega) (by omega)) (fun p hp => ea _ (by omega) (by omega) (fun h => hjw p hp h.symm)))
  · exact RHc.fr (hH _ (kpA_keepB hn hn2)) (fun q hq => rfl) (fun k hk => upR_off (by omega)) (by rw [upR_off (by omega)]; exact Int.le_refl _) (by rw [upR_off (by omega)]; exact Int.le_refl _)
  · rw [ea 2 (by decide) (by decide) (by omega)]; exact hC.2.2.2.1
  · rw [ea 3 (by decide) (by decide) (by omega)]; exact hC.2.2.2.2
theorem HF.pf {g g' : Nat → Nat → Int} (h : HF g g') : PF g g' := fun q a b c => h q (by omega) (by omega) (by omega) b
/-- the row with one more suspect, one more scene -/
def susA (a : Nat → Int) (n : Nat) (z x y : Int) : Nat → Int := upR (upR (upR (upR (upR (upR (upR (upR a 0 ((n : Int) + 1)) (16 + 7 * n) z) (17 + 7 * n) x) (18 + 7 * n) y) (19 + 7 * n) 0) (20 + 7 * n) 1) (21 + 7 * n) y) (22 + 7 * n) 1
def scA (a : Nat → Int) (n : Nat) (x y : Int) : Nat → Int := upR (upR (upR (upR (upR a 1 ((n : Int) + 1)) (58 + 4 * n) x) (59 + 4 * n) y) (60 + 4 * n) 0) (61 + 4 * n) 0
theorem susA_B (a : Nat → Int) (n : Nat) (z x y : Int) : susB a (susA a n z x y) n z x y := by
  unfold susA
  refine ⟨fun k h0 h => ?_, ?_, ?_, ?_, ?_, ?_, ?_, ?_, ?_⟩
  · rw [upR_off (by omega), upR_off (by omega), upR_off (by omega), upR_off (by omega), upR_off (by omega), upR_off (by omega), upR_off (by omega), upR_off h0]
  · rw [upR_off (by omega), upR_off (by omega), upR_off (by omega), upR_off (by omega), upR_off (by omega), upR_off (by omega), upR_off (by omega), upR_at]
  · rw [upR_off (by omega), upR_off (by omega), upR_off (by omega), upR_off (by omega), upR_off (by omega), upR_off (by omega), upR_at]
  · rw [upR_off (by omega), upR_off (by omega), upR_off (by omega), upR_off (by omega), upR_off (by omega), upR_at]
  · rw [upR_off (by omega), upR_off (by omega), upR_off (by omega), upR_off (by omega), upR_at]
  · rw [upR_off (by omega), upR_off (by omega), upR_off (by omega), upR_at]
  · rw [upR_off (by omega), upR_off (by omega), upR_at]
  · rw [upR_off (by omega), upR_at]
  · exact upR_at _ _ _
theorem scA_B (a : Nat → Int) (n : Nat) (x y : Int) : scB a (scA a n x y) n x y := by
  unfold scA
  refine ⟨fun k h0 h => ?_, ?_, ?_, ?_, ?_, ?_⟩
  · rw [upR_off (by omega), upR_off (by omega), upR_off (by omega), upR_off (by omega), upR_off h0]
  · rw [upR_off (by omega), upR_off (by omega), upR_off (by omega), upR_off (by omega), upR_at]
  · rw [upR_off (by omega), upR_off (by omega), upR_off (by omega), upR_at]
  · rw [upR_off (by omega), upR_off (by omega), upR_at]
  · rw [upR_off (by omega), upR_at]
  · exact upR_at _ _ _
theorem susB_uniq {a b b' : Nat → Int} {n : Nat} {z x y : Int} (h : susB a b n z x y) (h' : susB a b' n z x y) : b' = b := by
  obtain ⟨b0, b1, b2, b3, b4, b5, b6, b7, b8⟩ := h
  obtain ⟨d0, d1, d2, d3, d4, d5, d6, d7, d8⟩ := h'
  funext k
  by_cases e0 : k = 0
  · subst e0; rw [b1, d1]
  by_cases e : k < 16 + 7 * n ∨ 22 + 7 * n < k
  · rw [b0 k e0 e, d0 k e0 e]
  · have hc : k = 16 + 7 * n ∨ k = 17 + 7 * n ∨ k = 18 + 7 * n ∨ k = 19 + 7 * n ∨ k = 20 + 7 * n ∨ k = 21 + 7 * n ∨ k = 22 + 7 * n := by omega
    rcases hc with rfl | rfl | rfl | rfl | rfl | rfl | rfl
    · rw [b2, d2]
    · rw [b3, d3]
    · rw [b4, d4]
    · rw [b5, d5]
    · rw [b6, d6]
    · rw [b7, d7]
    · rw [b8, d8]
theorem scB_uniq {a b b' : Nat → Int} {n : Nat} {x y : Int} (h : scB a b n x y) (h' : scB a b' n x y) : b' = b := by
  obtain ⟨b0, b1, b2, b3, b4, b5⟩ := h
  obtain ⟨d0, d1, d2, d3, d4, d5⟩ := h'
  funext k
  by_cases e0 : k = 1
  · subst e0; rw [b1, d1]
  by_cases e : k < 58 + 4 * n ∨ 61 + 4 * n < k
  · rw [b0 k e0 e, d0 k e0 e]
  · have hc : k = 58 + 4 * n ∨ k = 59 + 4 * n ∨ k = 60 + 4 * n ∨ k = 61 + 4 * n := by omega
    rcases hc with rfl | rfl | rfl | rfl
    · rw [b2, d2]
    · rw [b3, d3]
    · rw [b4, d4]
    · rw [b5, d5]
theorem s_X5_playClause {d : Nat} {dd : List (Nat × Nat)} {sh : Nat → Nat → Nat} {g : Nat → Nat → Int} {K : Int → (Nat → Nat → Int) → Prop} {a0 a : Nat → Int} {j nn c t k : Nat} (hC : CSt g a0 a) (hj : dd[j]? = some (nn, c)) (hc : g (149 + 7 * j) 3 = (c : Int)) (hc24 : c ≤ 24) (hkc : k < c) (hcl : ClOk g (g 137) (149 + 7 * j) t k) (hX : RXt dd sh g a (g 137))
    (hK : ∀ g' b r, PF g g' → PL (g 137) (g 137 (681 * t + 1 + 3 * k)) (g 137 (681 * t + 2 + 3 * k)) (g 137 (681 * t + 3 + 3 * k)) a b r → CSt g' a0 b → (r = 0 ∨ r = 1) → K r g') : cI (d + 9) m_X5_playClause [(vR 118), (vR (149 + 7 * j)), (vI (k : Int))] dd sh g K := by
  obtain ⟨t0, t1, t2, t3, t4, t5, t6⟩ := T_at7 hj
  obtain ⟨r0, r1, r2, r4, r5, r6⟩ := rho_t sh j
  have en := hC.1.n
  have em := hC.1.m
  have hst := hC.2.2.1.st
  have hnt := hC.1.night
  obtain ⟨n4, hn4⟩ := Int.eq_ofNat_of_zero_le hst.2.1
  obtain ⟨c1, c2, c3, c4, c5⟩ := hcl
  refine mkI (ls := [some (vR 118), some (vR (149 + 7 * j)), some (vI (k : Int)), none, none]) rfl rfl rfl rfl rfl (r_X5_playClause_0 ?_)
  rw [r4, r5, r6, show ((k : Int)).toNat = k from rfl, lenT t4, lenT t5, lenT t6, hc]
  rw [c1] at c2 c3 c4 c5
  rw [c1]
  generalize ekk : g 137 (681 * t + 1 + 3 * k) = kk at hK c2 c3 c4 c5 ⊢
  generalize evv : g 137 (681 * t + 2 + 3 * k) = v at hK c4 ⊢
  generalize eww : g 137 (681 * t + 3 + 3 * k) = w at hK c5 ⊢
  have same : ∀ r, (r = 0 ∨ r = 1) → PL (g 137) kk v w a a r → K r g := fun r hr h => hK g a r PF.rf h hC hr
  have d4 : 3 ≤ kk → g (149 + 7 * j + 5) k = v ∧ 0 ≤ v ∧ v ≤ 60 := fun h => by have := c4 h; exact ⟨this.1, by omega, by omega⟩
  have d5 : kk = 3 ∨ kk = 4 ∨ kk = 5 ∨ kk = 9 → g (149 + 7 * j + 6) k = w ∧ 0 ≤ w ∧ w ≤ 39 := fun h => by have := c5 h; exact ⟨this.1, by omega, by omega⟩
  have sus : ∀ z, (z = 0 ∨ z = 1) → kk = 3 + z → cI (d + 8) m_X7_tellSuspect [(vR 3), (vI z), (vI v), (vI w)] dd sh g (fun r20 g21 => (i32 r20) ∧ ((r20 = (-1) → K 0 g21) ∧ (¬ r20 = (-1) → K 1 g21))) := fun z hz hkk => by
    have v4 := (d4 (by omega)).2
    have v5 := (d5 (by omega)).2
    refine s_X7_tellSuspect (d := d + 6) (n := (a 0).toNat) hC.1 (by omega) hz ⟨by omega, by omega⟩ ⟨by omega, by omega⟩ (fun cc g1 f1 f2 => ⟨⟨by omega, by omega⟩, fun h9 => absurd h9 (by omega), fun _ => ?_⟩) (fun cc => ⟨⟨by decide, by decide⟩, fun _ => same 0 (Or.inl rfl) (Or.inr (Or.inl ⟨by omega, Or.inr ⟨cc, rfl, rfl⟩⟩)), fun h9 => absurd rfl h9⟩)
    have hpf : PF g g1 := fun q h1 h2 h3 => f1 q (by omega) (by omega) (by omega) (by omega)
    have hb : susB a (susA a (a 0).toNat z v w) (a 0).toNat z v w := susA_B _ _ _ _ _
    refine hK g1 (susA a (a 0).toNat z v w) 1 hpf (Or.inr (Or.inl ⟨by omega, Or.inl ⟨cc, ?_, rfl⟩⟩)) ?_ (Or.inr rfl)
    · rw [show kk - 3 = z by omega]; exact hb
    have hS2 := f2 _ hb
    obtain ⟨b0, b1, -, -, -, -, -, -, b8⟩ := hb
    exact ⟨hS2, RNc.pf hpf (hC.2.1.sus (fun k hk => b0 k (by omega) (by omega)) (by omega) (by rw [b1]; omega) (fun p hp hq => b0 _ (by omega) (by omega)) b8), RHc.fr hC.2.2.1 (fun q hq => f1 q (by omega) (by omega) (by omega) (by omega)) (fun k hk => b0 k (by omega) (by omega)) (by omega) (by rw [b0 1 (by omega) (by omega)]; exact Int.le_refl _), by rw [b0 2 (by omega) (by omega)]; exact hC.2.2.2.1, by rw [b0 3 (by omega) (by omega)]; exact hC.2.2.2.2⟩
  refine ⟨⟨by omega, by omega⟩, fun h => absurd h (by omega), fun _ => ⟨by omega, t0, ⟨by omega, by omega⟩, fun _ => ⟨arT (by omega) t5, by omega, by omega, arT (by omega) t6, by omega, arT (by omega) t4, by omega, ⟨by omega, by omega⟩, fun h => ?_, fun h => ?_, fun h => ?_, fun h => ?_, fun h => ?_, fun h => ?_, fun h => ?_, fun h => ?_, fun h => ?_⟩, fun h => absurd h (by omega)⟩⟩
  · exact same 1 (Or.inr rfl) (Or.inl ⟨by omega, rfl, rfl⟩)
  · rw [(d4 (by omega)).1, (d5 (by omega)).1]
    exact sus 0 (Or.inl rfl) (by omega)
  · rw [(d4 (by omega)).1, (d5 (by omega)).1]
    exact sus 1 (Or.inr rfl) (by omega)
  · have v4 := (d4 (by omega)).2
    have v5 := (d5 (by omega)).2
    rw [(d4 (by omega)).1, (d5 (by omega)).1]
    refine s_X7_tellScene (d := d + 7) (n := (a 1).toNat) hC.1 (by omega) ⟨by omega, by omega⟩ ⟨by omega, by omega⟩ (fun cc g1 f1 f2 => ⟨⟨by omega, by omega⟩, fun h9 => absurd h9 (by omega), fun _ => ?_⟩) (fun cc => ⟨⟨by decide, by decide⟩, fun _ => same 0 (Or.inl rfl) (Or.inr (Or.inr (Or.inl ⟨h, Or.inr ⟨cc, rfl, rfl⟩⟩))), fun h9 => absurd rfl h9⟩)
    have hpf : PF g g1 := fun q h1 h2 h3 => f1 q (by omega) (by omega) (by omega)
    have hb : scB a (scA a (a 1).toNat v w) (a 1).toNat v w := scA_B _ _ _ _
    refine hK g1 (scA a (a 1).toNat v w) 1 hpf (Or.inr (Or.inr (Or.inl ⟨h, Or.inl ⟨cc, hb, rfl⟩⟩))) ?_ (Or.inr rfl)
    have hS2 := f2 _ hb
    obtain ⟨b0, b1, -⟩ := hb
    exact ⟨hS2, RNc.pf hpf (hC.2.1.sc (fun k hk => b0 k (by omega) (by omega)) (by rw [b1]; omega) (fun p hp => b0 _ (by omega) (by omega))), RHc.fr hC.2.2.1 (fun q hq => f1 q (by omega) (by omega) (by omega)) (fun k hk => b0 k (by omega) (by omega)) (by rw [b0 0 (by omega) (by omega)]; exact Int.le_refl _) (by omega), by rw [b0 2 (by omega) (by omega)]; exact hC.2.2.2.1, by rw [b0 3 (by omega) (by omega)]; exact hC.2.2.2.2⟩
  · have v4 := (d4 (by omega)).2
    rw [(d4 (by omega)).1]
    refine s_X5_cutByHand (d := d + 4) hC.1 hC.2.2.1 hn4 ⟨by omega, by omega⟩ (fun c e h7 hq g1 f hS hH => ⟨Or.inr rfl, ?_⟩) (fun hno => ⟨Or.inl rfl, same 0 (Or.inl rfl) (Or.inr (Or.inr (Or.inr (Or.inl ⟨h, Or.inr ⟨hno, rfl, rfl⟩⟩))))⟩)
    exact hK g1 _ 1 f.pf (Or.inr (Or.inr (Or.inr (Or.inl ⟨h, Or.inl ⟨c, e, h7, hq, rfl, rfl⟩⟩)))) (hand_CSt hC hn4 (by omega) f.pf (by omega) (fun p hp => by omega) hS hH) (Or.inr rfl)
  · have v4 := (d4 (by omega)).2
    rw [(d4 (by omega)).1]
    refine s_X5_encoreByHand (d := d + 4) hC.1 hC.2.2.1 hn4 ⟨by omega, by omega⟩ (fun c e h7 hq h0 h1 g1 f hS hH => ⟨Or.inr rfl, ?_⟩) (fun hno => ⟨Or.inl rfl, same 0 (Or.inl rfl) (Or.inr (Or.inr (Or.inr (Or.inr (Or.inl ⟨h, Or.inr ⟨hno, rfl, rfl⟩⟩)))))⟩)
    exact hK g1 _ 1 f.pf (Or.inr (Or.inr (Or.inr (Or.inr (Or.inl ⟨h, Or.inl ⟨c, e, h7, hq, h0, h1, rfl, rfl⟩⟩))))) (hand_CSt hC hn4 (by omega) f.pf (by omega) (fun p hp => by omega) hS hH) (Or.inr rfl)
  · have v4 := (d4 (by omega)).2
    rw [(d4 (by omega)).1]
    refine s_X5_sendByHand (d := d + 4) hC.1 hC.2.2.1 hn4 ⟨by omega, by omega⟩ (fun c e h7 hq g1 f hS hH => ⟨Or.inr rfl, ?_⟩) (fun hno => ⟨Or.inl rfl, same 0 (Or.inl rfl) (Or.inr (Or.inr (Or.inr (Or.inr (Or.inr (Or.inl ⟨h, Or.inr ⟨hno, rfl, rfl⟩⟩))))))⟩)
    exact hK g1 _ 1 f.pf (Or.inr (Or.inr (Or.inr (Or.inr (Or.inr (Or.inl ⟨h, Or.inl ⟨c, e, h7, hq, rfl, rfl⟩⟩)))))) (hand_CSt hC hn4 (by omega) f.pf (by omega) (fun p hp => by omega) hS hH) (Or.inr rfl)
  · have v4 := (d4 (by omega)).2
    have v5 := (d5 (by omega)).2
    rw [(d4 (by omega)).1, (d5 (by omega)).1]
    refine s_X5_seatByHand (d := d + 4) hC.1 hC.2.2.1 hn4 ⟨by omega, by omega⟩ ⟨by omega, by omega⟩ (fun c e h7 hq hf g1 f hS hH => ⟨Or.inr rfl, ?_⟩) (fun hno => ⟨Or.inl rfl, same 0 (Or.inl rfl) (Or.inr (Or.inr (Or.inr (Or.inr (Or.inr (Or.inr (Or.inl ⟨h, Or.inr ⟨hno, rfl, rfl⟩⟩)))))))⟩)
    exact hK g1 _ 1 f.pf (Or.inr (Or.inr (Or.inr (Or.inr (Or.inr (Or.inr (Or.inl ⟨h, Or.inl ⟨c, e, h7, hq, hf, rfl, rfl⟩⟩))))))) (hand_CSt hC hn4 (by omega) f.pf (by omega) (fun p hp => by omega) hS hH) (Or.inr rfl)
  · have v4 := (d4 (by omega)).2
    rw [(d4 (by omega)).1]
    obtain ⟨N, rfl⟩ := Int.eq_ofNat_of_zero_le v4.1
    obtain ⟨M, hMN, hM, hE⟩ : ∃ M : Nat, M ≤ N ∧ a 10 + M ≤ 9999 ∧ (M = N ∨ a 10 + M = 9999) := by
      by_cases e : a 10 + N ≤ 9999
      · exact ⟨N, Nat.le_refl _, e, Or.inl rfl⟩
      · exact ⟨(9999 - a 10).toNat, by omega, by omega, Or.inr (by omega)⟩
    refine s_X5_nightsQ (d := d) (M := M) (y := 0) (n := (a 0).toNat) (m := (a 1).toNat) hC.1 hC.2.2.1 hX (by omega) (by omega) hMN (by omega) hM hE fun g1 f hS hH hNI => ?_
    have hNM := hNI M (Nat.le_refl _)
    have hpf : PF g g1 := fun q h1 h2 h3 => f q (by omega) (by omega) (by omega) (by omega) h2 h3
    have lo : ∀ k, k < 4 ∨ (5 ≤ k ∧ k < 10) ∨ (86 ≤ k ∧ k < 184) → (nit (g 137) (a 0).toNat (a 1).toNat a 0 M).1 k = a k := fun k hk => nit_lo (by omega) (by omega) (by omega) (by omega) (fun p hp => by omega) (fun c hc => by omega) M
    have lw : ∀ p : Nat, p < 6 → (nit (g 137) (a 0).toNat (a 1).toNat a 0 M).1 (22 + 7 * p) = a (22 + 7 * p) := fun p hp => nit_lo (by omega) (by omega) (by omega) (by omega) (fun p hp => by omega) (fun c hc => by omega) M
    have fin := hK g1 (nit (g 137) (a 0).toNat (a 1).toNat a 0 M).1 (if M = N then 1 else 0) hpf (Or.inr (Or.inr (Or.inr (Or.inr (Or.inr (Or.inr (Or.inr ⟨h, N, M, rfl, hMN, by omega, hM, hE, hNI, rfl, rfl⟩))))))) ⟨hS, RNc.pf hpf (RN.fr hC.2.1 (fun k hk => lo k (by omega)) lw), hH, by rw [lo 2 (by decide)]; exact hC.2.2.2.1, by rw [lo 3 (by decide)]; exact hC.2.2.2.2⟩ (by split <;> simp)
    by_cases e : M = N
    · rw [if_pos e] at fin ⊢
      exact ⟨⟨by have := hNM.2.2.1; omega, by have := hNM.2.2.2; omega⟩, fun h9 => absurd h9 (by have := hNM.2.2.1; omega), fun _ => fin⟩
    · rw [if_neg e] at fin ⊢
      exact ⟨⟨by decide, by decide⟩, fun _ => fin, fun h9 => absurd rfl h9⟩
-- the reference's clauses
def PQ (g1 g : Nat → Nat → Int) (a : Nat → Int) : Prop := (∀ q, q ≠ 134 → q ≠ 135 → q ≠ 140 → q ≠ 141 → g q = g1 q) ∧ (∀ k, k ≠ 23 → k ≠ 24 → g 134 k = g1 134 k) ∧ g 135 = a
theorem PQ.of {g1 g g' : Nat → Nat → Int} {a b : Nat → Int} (h : PQ g1 g a) (f : ∀ q, q ≠ 135 → g' q = g q) (e : g' 135 = b) : PQ g1 g' b := ⟨fun q q1 q2 q3 q4 => by rw [f q q2]; exact h.1 q q1 q2 q3 q4, fun k k1 k2 => by rw [f 134 (by decide)]; exact h.2.1 k k1 k2, e⟩
theorem s_X12_keepE {d : Nat} {dd : List (Nat × Nat)} {sh : Nat → Nat → Nat} {g : Nat → Nat → Int} {K : (Nat → Nat → Int) → Prop} {a : Nat → Int} (e : g 135 = a) (h4 : 0 ≤ a 4 ∧ a 4 ≤ 30) (hK : ∀ g', (∀ q, q ≠ 135 → g' q = g q) → g' 135 = kpA a → K g') : cV (d + 2) m_X12_keep [(vR 134)] dd sh g K := by
  obtain ⟨n, hn⟩ := Int.eq_ofNat_of_zero_le h4.1
  refine s_X12_keepX (n := n) (by rw [e]; exact hn) (by omega) fun g' f hb hx => ?_
  rw [e] at hb hx
  exact hK g' f (keepB_kpA hn (by omega) hb hx)
theorem PQ.pr {g1 g : Nat → Nat → Int} {a : Nat → Int} (h : PQ g1 g a) : PR g1 g (a, g 134 23, g 134 24) := ⟨h.1, h.2.1, h.2.2, rfl, rfl⟩
theorem PR.pq {g1 g : Nat → Nat → Int} {s : ST} (h : PR g1 g s) : PQ g1 g s.1 := ⟨h.1, h.2.1, h.2.2.1⟩
theorem s_X12_arePassedQ {d : Nat} {dd : List (Nat × Nat)} {sh : Nat → Nat → Nat} {g : Nat → Nat → Int} {K : Int → (Nat → Nat → Int) → Prop} {g1 : Nat → Nat → Int} {a : Nat → Int} {n m N M : Nat} {y : Int} (hX : RXt dd sh g1 a (g1 137)) (ht : -1 ≤ a 3 ∧ a 3 < a 2) (h2 : 0 ≤ a 2 ∧ a 2 ≤ 4) (hn : a 0 = n) (hm : a 1 = m) (hn6 : n ≤ 6) (hm7 : m ≤ 7) (hMN : M ≤ N) (hN6 : N ≤ 60) (h10 : 0 ≤ a 10) (hM : a 10 + M ≤ 9999) (hE : M = N ∨ a 10 + M = 9999) (hNI : ∀ i, i ≤ M → NI (g1 137) n m a y i) (h : PQ g1 g a) (hw : g1 134 22 = 1)
    (hK : ∀ g', PQ g1 g' (nit (g1 137) n m a y M).1 → K (if M = N then 1 else 0) g') : cI (d + 9) m_X12_arePassed [(vR 134), (vI ((N : Int)))] dd sh g K := by
  refine mkI (ls := [some (vR 134), some (vI ((N : Int))), none]) rfl rfl rfl rfl rfl (r_X12_arePassed_0 ?_)
  refine loop (P := fun j => ∀ g', PQ g1 g' (nit (g1 137) n m a y j).1 → rI (d + 8) m_X12_arePassed 2 [some (vR 134), some (vI ((N : Int))), some (vI ((j : Int)))] [] dd sh (g') K) (n := M) ?_ ?_ 0 (by omega) g h
  · intro g' hp
    have hk := hK g' hp
    have e5 : g' 135 = (nit (g1 137) n m a y M).1 := hp.2.2
    have z10 := nit_10 (T := g1 137) (n := n) (m := m) (a := a) (y := y) M
    refine r_X12_arePassed_2 ?_
    rw [e5, z10]
    by_cases e : M = N
    · rw [if_pos e] at hk
      exact ⟨⟨by omega, by omega⟩, ⟨by omega, by omega⟩, fun _ => hk, fun h => absurd h (by omega)⟩
    · rw [if_neg e] at hk
      exact ⟨⟨by omega, by omega⟩, ⟨by omega, by omega⟩, fun h => absurd h (by omega), fun _ => ⟨⟨by omega, by omega⟩, fun h => absurd (by omega) h, fun _ => hk⟩⟩
  · intro j hj ih g' hp
    obtain ⟨hAj, h4j, hcj⟩ := hNI j (by omega)
    have e5 : g' 135 = (nit (g1 137) n m a y j).1 := hp.2.2
    have z10 := nit_10 (T := g1 137) (n := n) (m := m) (a := a) (y := y) j
    have zz : ∀ k, k < 4 → (nit (g1 137) n m a y j).1 k = a k := fun k hk => nit_lo hn6 hm7 (by omega) (by omega) (fun p hp => by omega) (fun c hc => by omega) j
    have kk : ∀ k, k < 4 → kpA (nit (g1 137) n m a y j).1 k = a k := fun k hk => by rw [kpA_lo (by omega) (by omega)]; exact zz k hk
    refine r_X12_arePassed_2 ?_
    rw [e5, z10]
    refine ⟨⟨by omega, by omega⟩, ⟨by omega, by omega⟩, fun h => absurd h (by omega), fun _ => ⟨⟨by omega, by omega⟩, fun _ => ?_, fun h => absurd h (by omega)⟩⟩
    refine s_X12_keepE e5 h4j fun g2 f2 er => ?_
    have hp2 : PQ g1 g2 (kpA (nit (g1 137) n m a y j).1) := hp.of f2 er
    refine s_X12_pass (a0 := kpA (nit (g1 137) n m a y j).1) (w := true) (n := n) (m := m) (hX.fr (kk 2 (by decide)) fun _ _ => rfl) (by rw [kk 3 (by decide), kk 2 (by decide)]; exact ht) (by rw [kk 2 (by decide)]; exact h2) (by rw [kk 0 (by decide)]; exact hn) (by rw [kk 1 (by decide)]; exact hm) (fun _ _ _ _ => rfl) (kpA_AB hAj) hp2.pr (by rw [hw]; rfl) fun g3 h3 => ih g3 ?_
    have hsh := paS_Sh (w := true) (T := g1 137) (n := n) (m := m) (x := g2 134 23 - (nit (g1 137) n m a y j).2.1) (s := (kpA (nit (g1 137) n m a y j).1, g2 134 23, g2 134 24)) (s' := (kpA (nit (g1 137) n m a y j).1, (nit (g1 137) n m a y j).2)) ⟨rfl, by show g2 134 23 = g2 134 23 - (nit (g1 137) n m a y j).2.1 + (nit (g1 137) n m a y j).2.1; omega⟩
    have h4 := h3.pq
    rw [hsh.1] at h4
    exact h4
theorem s_X12_isPlayed {d : Nat} {dd : List (Nat × Nat)} {sh : Nat → Nat → Nat} {g : Nat → Nat → Int} {K : Int → (Nat → Nat → Int) → Prop} {g1 : Nat → Nat → Int} {a b : Nat → Int} {r : Int} {x : Nat} (hA : AB a) (hB : AB b) (h4 : 0 ≤ a 4 ∧ a 4 ≤ 30) (ht : -1 ≤ a 3 ∧ a 3 < a 2) (h2 : 0 ≤ a 2 ∧ a 2 ≤ 4) (hX : RXt dd sh g1 a (g1 137)) (hx : x + 2 < 2724) (h : PQ g1 g a) (hw : g1 134 22 = 1) (hk0 : 0 ≤ g1 137 x ∧ g1 137 x ≤ 10) (hv : 3 ≤ g1 137 x → 0 ≤ g1 137 (x + 1) ∧ g1 137 (x + 1) ≤ 60) (hwv : g1 137 x = 3 ∨ g1 137 x = 4 ∨ g1 137 x = 5 ∨ g1 137 x = 9 → 0 ≤ g1 137 (x + 2) ∧ g1 137 (x + 2) ≤ 39)
    (hP : PL (g1 137) (g1 137 x) (g1 137 (x + 1)) (g1 137 (x + 2)) a b r) (hK : ∀ g', PQ g1 g' b → K r g') : cI (d + 10) m_X12_isPlayed [(vR 134), (vI (x : Int))] dd sh g K := by
  have e137 : g 137 = g1 137 := h.1 137 (by decide) (by decide) (by decide) (by decide)
  have e5 : g 135 = a := h.2.2
  have en := hA.n
  have em := hA.m
  have hnt := hA.night
  refine mkI (ls := [some (vR 134), some (vI (x : Int)), none, none]) rfl rfl rfl rfl rfl (r_X12_isPlayed_0 ?_)
  rw [show ((x : Int)).toNat = x from rfl, show ((x : Int) + 1).toNat = x + 1 from rfl, show ((x : Int) + 2).toNat = x + 2 from rfl, e137]
  generalize g1 137 x = kk at hP hk0 hv hwv ⊢
  generalize g1 137 (x + 1) = v at hP hv ⊢
  generalize g1 137 (x + 2) = w at hP hwv ⊢
  have same : ∀ r', b = a → r = r' → K r' g := fun r' hb hr => by
    subst hr
    exact hK g (by rw [hb]; exact h)
  have sus : ∀ z, (z = 0 ∨ z = 1) → kk = 3 + z → cI (d + 9) m_X12_suspect [(vR 134), (vI z), (vI v), (vI w)] dd sh g (fun r12 g13 => (i32 r12) ∧ ((r12 < 0 → K 0 g13) ∧ (0 ≤ r12 → K 1 g13))) := fun z hz hkk => by
    have v4 := hv (by omega)
    have v5 := hwv (by omega)
    have hP2 : ((((0 ≤ v ∧ v ≤ 9) ∧ free a w ∧ (a 0).toNat < 6) ∧ susB a b (a 0).toNat (kk - 3) v w ∧ r = 1) ∨ (¬ ((0 ≤ v ∧ v ≤ 9) ∧ free a w ∧ (a 0).toNat < 6) ∧ b = a ∧ r = 0)) := by
      rcases hP with q | q | q | q | q | q | q | q
      · exact absurd q.1 (by omega)
      · exact q.2
      all_goals exact absurd q.1 (by omega)
    rw [show kk - 3 = z by omega] at hP2
    refine s_X12_suspect (d := d + 6) (n := (a 0).toNat) (by rw [e5]; exact hA) (by rw [e5]; omega) hz ⟨by omega, by omega⟩ ⟨by omega, by omega⟩ (fun cc g2 f hb => ?_) (fun cc => ?_)
    · rw [e5] at cc hb
      rcases hP2 with q | q
      · refine ⟨⟨by omega, by omega⟩, fun h9 => absurd h9 (by omega), fun _ => ?_⟩
        have := hK g2 (h.of f (susB_uniq q.2.1 hb))
        rw [q.2.2] at this; exact this
      · exact absurd cc q.1
    · rw [e5] at cc
      rcases hP2 with q | q
      · exact absurd q.1 cc
      · exact ⟨⟨by decide, by decide⟩, fun _ => same 0 q.2.1 q.2.2, fun h9 => absurd h9 (by decide)⟩
  refine ⟨by omega, by omega, by omega, by omega, by omega, by omega, ⟨by omega, by omega⟩, fun hh => ?_, fun hh => ?_, fun hh => ?_, fun hh => ?_, fun hh => ?_, fun hh => ?_, fun hh => ?_, fun hh => ?_, fun hh => ?_⟩
  · rcases hP with q | q | q | q | q | q | q | q
    · exact same 1 q.2.1 q.2.2
    all_goals exact absurd q.1 (by omega)
  · exact sus 0 (Or.inl rfl) (by omega)
  · exact sus 1 (Or.inr rfl) (by omega)
  · have v4 := hv (by omega)
    have v5 := hwv (by omega)
    have hP2 : ((((0 ≤ v ∧ v ≤ 9) ∧ (1 ≤ w ∧ w ≤ 9) ∧ (a 1).toNat < 7) ∧ scB a b (a 1).toNat v w ∧ r = 1) ∨ (¬ ((0 ≤ v ∧ v ≤ 9) ∧ (1 ≤ w ∧ w ≤ 9) ∧ (a 1).toNat < 7) ∧ b = a ∧ r = 0)) := by
      rcases hP with q | q | q | q | q | q | q | q
      · exact absurd q.1 (by omega)
      · exact absurd q.1 (by omega)
      · exact q.2
      all_goals exact absurd q.1 (by omega)
    refine s_X12_scene (d := d + 7) (n := (a 1).toNat) (by rw [e5]; exact hA) (by rw [e5]; omega) ⟨by omega, by omega⟩ ⟨by omega, by omega⟩ (fun cc g2 f hb => ?_) (fun cc => ?_)
    · rw [e5] at hb
      rcases hP2 with q | q
      · refine ⟨⟨by omega, by omega⟩, fun h9 => absurd h9 (by omega), fun _ => ?_⟩
        have := hK g2 (h.of f (scB_uniq q.2.1 hb))
        rw [q.2.2] at this; exact this
      · exact absurd cc q.1
    · rcases hP2 with q | q
      · exact absurd q.1 cc
      · exact ⟨⟨by decide, by decide⟩, fun _ => same 0 q.2.1 q.2.2, fun h9 => absurd h9 (by decide)⟩
  · have v4 := hv (by omega)
    have hP2 : ((∃ c : Nat, v = c ∧ c < 7 ∧ (c : Int) < a 1 ∧ b = upR (kpA a) (60 + 4 * c) (1 - a (60 + 4 * c)) ∧ r = 1) ∨ (¬ (0 ≤ v ∧ v < a 1) ∧ b = a ∧ r = 0)) := by
      rcases hP with q | q | q | q | q | q | q | q
      · exact absurd q.1 (by omega)
      · exact absurd q.1 (by omega)
      · exact absurd q.1 (by omega)
      · exact q.2
      all_goals exact absurd q.1 (by omega)
    refine mkI (ls := [some (vR 134), some (vI v)]) rfl rfl rfl rfl rfl (r_X12_cut_0 ?_)
    refine s_X12_isScene (by rw [e5]; exact em) ⟨by omega, by omega⟩ (fun h3 h3' => ?_) (fun h3 => ?_)
    · rw [e5] at h3'
      rcases hP2 with ⟨c, rfl, c7, cq, eb, er⟩ | q
      · refine ⟨⟨by decide, by decide⟩, fun _ => ?_, fun h => absurd h (by decide)⟩
        refine s_X12_keepE e5 h4 fun g2 f2 e2 => ?_
        refine s_of2 (by omega) (s_lay2 (by omega) ?_)
        have e60 : g2 135 (60 + 4 * c) = a (60 + 4 * c) := by rw [e2, kpA_lo (by omega) (by omega)]
        rw [e60]
        have eR : (up g2 135 (60 + 4 * c) (1 - a (60 + 4 * c))) 135 = b := by
          rw [eb, ← e2]
          funext k
          rw [up_at]; rfl
        have b1 : b 1 = a 1 := by rw [eb, upR_off (by omega), kpA_lo (by decide) (by decide)]
        refine s_X12_given (m := (a 1).toNat) (by rw [eR]; exact hB) (by rw [eR, b1]; omega) ?_
        have hb2 := sm_bound (f := gvF ((up g2 135 (60 + 4 * c) (1 - a (60 + 4 * c))) 135)) (n := (a 1).toNat) (B := 1) fun k _ => by unfold gvF; split <;> omega
        have := hK (up g2 135 (60 + 4 * c) (1 - a (60 + 4 * c))) (h.of (fun q hq => by rw [up_off hq, f2 q hq]) eR)
        rw [er] at this
        exact ⟨⟨by omega, by omega⟩, fun h9 => absurd h9 (by omega), fun _ => this⟩
      · exact absurd ⟨h3, h3'⟩ q.1
    · rw [e5] at h3
      rcases hP2 with ⟨c, rfl, c7, cq, eb, er⟩ | q
      · omega
      · exact ⟨⟨by decide, by decide⟩, fun h => absurd rfl h, fun _ => ⟨⟨by decide, by decide⟩, fun _ => same 0 q.2.1 q.2.2, fun h9 => absurd h9 (by decide)⟩⟩
  · have v4 := hv (by omega)
    have hP2 : ((∃ c : Nat, v = c ∧ c < 7 ∧ (c : Int) < a 1 ∧ a (60 + 4 * c) = 0 ∧ a (61 + 4 * c) = 0 ∧ b = upR (kpA a) (61 + 4 * c) 1 ∧ r = 1) ∨ (¬ (0 ≤ v ∧ v < a 1 ∧ a (60 + 4 * v.toNat) = 0 ∧ a (61 + 4 * v.toNat) = 0) ∧ b = a ∧ r = 0)) := by
      rcases hP with q | q | q | q | q | q | q | q
      · exact absurd q.1 (by omega)
      · exact absurd q.1 (by omega)
      · exact absurd q.1 (by omega)
      · exact absurd q.1 (by omega)
      · exact q.2
      all_goals exact absurd q.1 (by omega)
    refine mkI (ls := [some (vR 134), some (vI v)]) rfl rfl rfl rfl rfl (r_X12_encore_0 ?_)
    obtain ⟨c, rfl⟩ := Int.eq_ofNat_of_zero_le v4.1
    rcases hP2 with ⟨c', ec, c7, cq, ec0, ec1, eb, er⟩ | q
    · obtain rfl : c = c' := by omega
      refine s_X12_isScene (by rw [e5]; exact em) ⟨by omega, by omega⟩ (fun _ _ => ?_) (fun h => absurd h (by rw [e5]; omega))
      refine ⟨⟨by decide, by decide⟩, fun h => absurd h (by decide), fun _ => ?_⟩
      refine mkI (ls := [some (vR 134), some (vI ((c : Int)))]) rfl rfl rfl rfl rfl (r_X12_canEncore_0 ?_)
      refine s_of2 (by omega) ?_
      rw [e5, ec0]
      refine ⟨⟨by decide, by decide⟩, fun h => absurd rfl h, fun _ => ?_⟩
      refine s_of3 (by omega) ?_
      rw [e5, ec1]
      refine ⟨⟨by decide, by decide⟩, fun h => absurd rfl h, fun _ => ⟨⟨by decide, by decide⟩, fun _ => ?_, fun h => absurd h (by decide)⟩⟩
      refine s_X12_keepE e5 h4 fun g2 f2 e2 => ?_
      refine s_lay3 (by omega) ⟨Or.inr rfl, ?_⟩
      have := hK (up g2 135 (61 + 4 * c) 1) (h.of (fun q hq => by rw [up_off hq, f2 q hq]) (by rw [eb, ← e2]; funext k; rw [up_at]; rfl))
      rw [er] at this
      exact this
    · rw [show ((c : Int)).toNat = c from rfl] at q
      have s0 := same 0 q.2.1 q.2.2
      refine s_X12_isScene (by rw [e5]; exact em) ⟨by omega, by omega⟩ (fun h3 h3' => ?_) (fun h3 => ?_)
      · rw [e5] at h3'
        have hcc := hA.cc c (by omega) (by omega)
        refine ⟨⟨by decide, by decide⟩, fun h => absurd h (by decide), fun _ => ?_⟩
        refine mkI (ls := [some (vR 134), some (vI ((c : Int)))]) rfl rfl rfl rfl rfl (r_X12_canEncore_0 ?_)
        have q1 := q.1
        refine s_of2 (by omega) ?_
        rw [e5]
        refine ⟨⟨by omega, by omega⟩, fun h => ⟨⟨by decide, by decide⟩, fun h => absurd rfl h, fun _ => ⟨Or.inl rfl, s0⟩⟩, fun h => ?_⟩
        refine s_of3 (by omega) ?_
        rw [e5]
        refine ⟨⟨by omega, by omega⟩, fun h => ⟨⟨by decide, by decide⟩, fun h => absurd rfl h, fun _ => ⟨Or.inl rfl, s0⟩⟩, fun h => absurd ⟨by omega, by omega, by omega, by omega⟩ q1⟩
      · exact ⟨⟨by decide, by decide⟩, fun _ => ⟨Or.inl rfl, s0⟩, fun h => absurd rfl h⟩
  · have v4 := hv (by omega)
    have hP2 : ((∃ c : Nat, v = c ∧ c < 6 ∧ (c : Int) < a 0 ∧ b = upR (kpA a) (20 + 7 * c) (1 - a (20 + 7 * c)) ∧ r = 1) ∨ (¬ (0 ≤ v ∧ v < a 0) ∧ b = a ∧ r = 0)) := by
      rcases hP with q | q | q | q | q | q | q | q
      · exact absurd q.1 (by omega)
      · exact absurd q.1 (by omega)
      · exact absurd q.1 (by omega)
      · exact absurd q.1 (by omega)
      · exact absurd q.1 (by omega)
      · exact q.2
      all_goals exact absurd q.1 (by omega)
    refine mkI (ls := [some (vR 134), some (vI v), none, none]) rfl rfl rfl rfl rfl (r_X12_away_0 ?_)
    refine s_X12_isSuspect (by rw [e5]; exact en) ⟨by omega, by omega⟩ (fun h3 h3' => ?_) (fun h3 => ?_)
    · rw [e5] at h3'
      rcases hP2 with ⟨c, rfl, c7, cq, eb, er⟩ | q
      · refine ⟨⟨by decide, by decide⟩, fun _ => ?_, fun h => absurd h (by decide)⟩
        refine s_X12_keepE e5 h4 fun g2 f2 e2 => ?_
        refine s_get4 (by omega) (s_put4 (by omega) ?_)
        have e60 : g2 135 (20 + 7 * c) = a (20 + 7 * c) := by rw [e2, kpA_lo (by omega) (by omega)]
        rw [e60]
        have eR : (up g2 135 (20 + 7 * c) (1 - a (20 + 7 * c))) 135 = b := by
          rw [eb, ← e2]
          funext k
          rw [up_at]; rfl
        have b1 : b 0 = a 0 := by rw [eb, upR_off (by omega), kpA_lo (by decide) (by decide)]
        have hk2 := hK (up g2 135 (20 + 7 * c) (1 - a (20 + 7 * c))) (h.of (fun q hq => by rw [up_off hq, f2 q hq]) eR)
        rw [er] at hk2
        have hb2 := sm_bound (f := cmF b) (n := (a 0).toNat) (B := 1) fun k hk => (hB.pp k (by omega) (by rw [b1]; omega)).2.2.2.2.1
        refine loop (P := fun k => rI (d + 8) m_X12_away 32 [some (vR 134), none, some (vI (sm (cmF b) k)), some (vI ((k : Int)))] [] dd sh ((up g2 135 (20 + 7 * c) (1 - a (20 + 7 * c)))) (fun r36 g37 => (i32 r36) ∧ ((r36 < 0 → K 0 g37) ∧ (0 ≤ r36 → K 1 g37)))) (n := (a 0).toNat) ?_ ?_ 0 (by omega)
        · refine r_X12_away_32 ?_
          rw [eR, b1]
          exact ⟨⟨by omega, by omega⟩, ⟨by omega, by omega⟩, fun _ => ⟨⟨by omega, by omega⟩, fun h9 => absurd h9 (by omega), fun _ => hk2⟩, fun h => absurd h (by omega)⟩
        · intro k hk3 ih
          refine r_X12_away_32 ?_
          rw [eR, b1]
          refine ⟨⟨by omega, by omega⟩, ⟨by omega, by omega⟩, fun h => absurd h (by omega), fun _ => ?_⟩
          refine s_get4 (by omega) ?_
          rw [eR]
          exact ih
      · exact absurd ⟨h3, h3'⟩ q.1
    · rw [e5] at h3
      rcases hP2 with ⟨c, rfl, c7, cq, eb, er⟩ | q
      · omega
      · exact ⟨⟨by decide, by decide⟩, fun h => absurd rfl h, fun _ => ⟨⟨by decide, by decide⟩, fun _ => same 0 q.2.1 q.2.2, fun h9 => absurd h9 (by decide)⟩⟩
  · have v4 := hv (by omega)
    have v5 := hwv (by omega)
    have hP2 : ((∃ c : Nat, v = c ∧ c < 6 ∧ (c : Int) < a 0 ∧ free a w ∧ b = upR (kpA a) (18 + 7 * c) w ∧ r = 1) ∨ (¬ ((0 ≤ v ∧ v < a 0) ∧ free a w) ∧ b = a ∧ r = 0)) := by
      rcases hP with q | q | q | q | q | q | q | q
      · exact absurd q.1 (by omega)
      · exact absurd q.1 (by omega)
      · exact absurd q.1 (by omega)
      · exact absurd q.1 (by omega)
      · exact absurd q.1 (by omega)
      · exact absurd q.1 (by omega)
      · exact q.2
      · exact absurd q.1 (by omega)
    refine mkI (ls := [some (vR 134), some (vI v), some (vI w)]) rfl rfl rfl rfl rfl (r_X12_seat_0 ?_)
    refine s_X12_isSuspect (by rw [e5]; exact en) ⟨by omega, by omega⟩ (fun h3 h3' => ?_) (fun h3 => ?_)
    · rw [e5] at h3'
      refine ⟨⟨by decide, by decide⟩, fun h => absurd h (by decide), fun _ => ?_⟩
      refine s_X12_isFree (by rw [e5]; exact hA) ⟨by omega, by omega⟩ (fun hf => ?_) (fun hf => ?_)
      · rw [e5] at hf
        refine ⟨⟨by decide, by decide⟩, fun _ => ?_, fun h => absurd h (by decide)⟩
        rcases hP2 with ⟨c, rfl, c7, cq, _, eb, er⟩ | q
        · refine s_X12_keepE e5 h4 fun g2 f2 e2 => ?_
          refine s_put2 (by omega) ⟨Or.inr rfl, ?_⟩
          have := hK (up g2 135 (18 + 7 * c) w) (h.of (fun q hq => by rw [up_off hq, f2 q hq]) (by rw [eb, ← e2]; funext k; rw [up_at]; rfl))
          rw [er] at this
          exact this
        · exact absurd ⟨⟨h3, h3'⟩, hf⟩ q.1
      · rw [e5] at hf
        rcases hP2 with ⟨c, rfl, c7, cq, hf2, eb, er⟩ | q
        · exact absurd hf2 hf
        · exact ⟨⟨by decide, by decide⟩, fun h => absurd rfl h, fun _ => ⟨Or.inl rfl, same 0 q.2.1 q.2.2⟩⟩
    · rw [e5] at h3
      rcases hP2 with ⟨c, rfl, c7, cq, hf2, eb, er⟩ | q
      · omega
      · exact ⟨⟨by decide, by decide⟩, fun _ => ⟨Or.inl rfl, same 0 q.2.1 q.2.2⟩, fun h => absurd rfl h⟩
  · rcases hP with q | q | q | q | q | q | q | q
    · exact absurd q.1 (by omega)
    · exact absurd q.1 (by omega)
    · exact absurd q.1 (by omega)
    · exact absurd q.1 (by omega)
    · exact absurd q.1 (by omega)
    · exact absurd q.1 (by omega)
    · exact absurd q.1 (by omega)
    · obtain ⟨_, N, M, rfl, hMN, hN6, hM, hE, hNI, eb, er⟩ := q
      refine s_X12_arePassedQ (d := d) (M := M) (y := 0) (n := (a 0).toNat) (m := (a 1).toNat) hX ht h2 (by omega) (by omega) (by omega) (by omega) hMN hN6 (by omega) hM hE hNI h hw fun g2 hp => ?_
      have := hK g2 (by rw [eb]; exact hp)
      rw [er] at this
      exact ⟨by split <;> simp, this⟩
theorem sim_played : S_played := by
  intro dd sh g hI a1 h1
  have htx := hI.h.tx
  have hru := hI.h.ru
  unfold SimI
  refine mkI (ls := [some (vR 1), some (vI a1), none, none]) rfl rfl rfl rfl rfl (r_X11_played_0 ?_)
  refine s_X1_textOf hI.h h1 (fun c1 => ?_) (fun c1 => ?_)
  · obtain ⟨t, rfl⟩ := Int.eq_ofNat_of_zero_le c1.1
    obtain ⟨j, nn, c, hj, hq, hc24, hn300, hgc, hTc, hcl, -⟩ := hI.xt t (by omega) c1.2
    rw [show ((t : Int)).toNat = t from rfl, hq]
    rw [hq] at hgc hcl
    obtain ⟨t0, t1, t2, t3, t4, t5, t6⟩ := T_at7 hj
    have hfin : ∀ k, k < c → (0 ≤ g 137 (681 * t + 1 + 3 * k) ∧ g 137 (681 * t + 1 + 3 * k) ≤ 10) ∧ (3 ≤ g 137 (681 * t + 1 + 3 * k) → 0 ≤ g 137 (681 * t + 2 + 3 * k) ∧ g 137 (681 * t + 2 + 3 * k) ≤ 60) ∧ (g 137 (681 * t + 1 + 3 * k) = 3 ∨ g 137 (681 * t + 1 + 3 * k) = 4 ∨ g 137 (681 * t + 1 + 3 * k) = 5 ∨ g 137 (681 * t + 1 + 3 * k) = 9 → 0 ≤ g 137 (681 * t + 3 + 3 * k) ∧ g 137 (681 * t + 3 + 3 * k) ≤ 39) := fun k hk => by
      obtain ⟨q1, q2, q3, q4, q5⟩ := hcl k hk
      refine ⟨by omega, fun h => ?_, fun h => ?_⟩
      · have := q4 (by omega); omega
      · have := q5 (by omega); omega
    have ref : ∀ (g1 : Nat → Nat → Int) (kk : Nat) (f : Nat → Nat → Int) (bf : Nat → Int) (res : Int), kk ≤ c → f 0 = g 135 → (∀ i, i < kk → PL (g 137) (g 137 (681 * t + 1 + 3 * i)) (g 137 (681 * t + 2 + 3 * i)) (g 137 (681 * t + 3 + 3 * i)) (f i) (f (i + 1)) 1) → (∀ i, i ≤ kk → AB (f i) ∧ (0 ≤ f i 4 ∧ f i 4 ≤ 30) ∧ f i 2 = g 135 2 ∧ f i 3 = g 135 3) → PF g g1 → CSt g1 (g 135) bf → ((kk = c ∧ bf = f kk ∧ res = -1) ∨ (kk < c ∧ PL (g 137) (g 137 (681 * t + 1 + 3 * kk)) (g 137 (681 * t + 2 + 3 * kk)) (g 137 (681 * t + 3 + 3 * kk)) (f kk) bf 0 ∧ res = (kk : Int))) → cI 200 m_X12_played [vR 134, vI (t : Int)] dd sh g1 (fun r' g3 => res = r' ∧ i32 res ∧ Inv dd sh g3) := by
      intro g1 kk f bf res hkk f0 hch hfa hpf hC hend
      have e5 : g1 135 = g 135 := hpf 135 (by decide) (by decide) (by decide)
      have e7 : g1 137 = g 137 := hpf 137 (by decide) (by decide) (by decide)
      have e4 : g1 134 = g 134 := hpf 134 (by decide) (by decide) (by decide)
      have h22 : g1 134 22 = 1 := by rw [e4]; exact hI.x.2.2.2.2
      have hX : ∀ i, i ≤ kk → RXt dd sh g1 (f i) (g1 137) := fun i hi => by rw [e7]; exact hI.xt.fr (hfa i hi).2.2.1 fun q hq => hpf q (by omega) (by omega) (by omega)
      have fin : ∀ g3, PQ g1 g3 bf → Inv dd sh g3 := fun g3 hp => hI.step (g1 := g1) (fun q hq => hpf q (by omega) (by omega) (by omega)) ⟨fun q hq => hp.1 q (by omega) (by omega) (by omega) (by omega), fun k hk => hp.2.1 k (by omega) (by omega)⟩ (by rw [hp.2.2]; exact hC.1) (by rw [hp.2.2]; exact hC.2.1) (by rw [hp.2.2]; exact hC.2.2.1) (by rw [hp.2.2]; exact hC.2.2.2.1)
      have step : ∀ i b r, i < c → i ≤ kk → AB b → PL (g 137) (g 137 (681 * t + 1 + 3 * i)) (g 137 (681 * t + 2 + 3 * i)) (g 137 (681 * t + 3 + 3 * i)) (f i) b r → ∀ g' (K : Int → (Nat → Nat → Int) → Prop), PQ g1 g' (f i) → (∀ g'', PQ g1 g'' b → K r g'') → cI 199 m_X12_isPlayed [(vR 134), (vI (((681 * (t : Int)) + 1) + (3 * (i : Int))))] dd sh g' K := by
        intro i b r hi hik hB hP g' K hp hK
        have hf := hfin i hi
        have hfi := hfa i hik
        rw [show ((681 * (t : Int)) + 1) + (3 * (i : Int)) = ((681 * t + 1 + 3 * i : Nat) : Int) by omega]
        refine s_X12_isPlayed (d := 189) (g1 := g1) (a := f i) (b := b) hfi.1 hB hfi.2.1 (by rw [hfi.2.2.1, hfi.2.2.2]; exact hru.2) (by rw [hfi.2.2.1]; exact htx.2) (hX i hik) (by omega) hp h22 (by rw [e7]; exact hf.1) (by rw [e7, show 681 * t + 1 + 3 * i + 1 = 681 * t + 2 + 3 * i by omega]; exact hf.2.1) (by rw [e7, show 681 * t + 1 + 3 * i + 2 = 681 * t + 3 + 3 * i by omega]; exact hf.2.2) (by rw [e7, show 681 * t + 1 + 3 * i + 1 = 681 * t + 2 + 3 * i by omega, show 681 * t + 1 + 3 * i + 2 = 681 * t + 3 + 3 * i by omega]; exact hP) hK
      refine mkI (ls := [some (vR 134), some (vI ((t : Int))), none]) rfl rfl rfl rfl rfl (r_X12_played_0 ?_)
      rw [e5]
      refine s_X12_isIn ⟨by omega, by omega⟩ ⟨by decide, by decide⟩ ⟨by omega, by omega⟩ (fun _ _ => ⟨⟨by decide, by decide⟩, fun _ => ?_, fun h => absurd h (by decide)⟩) (fun h => absurd h (by omega))
      have eT : ∀ g', PQ g1 g' (f 0) ∨ True → g1 137 (681 * t) = (c : Int) := fun _ _ => by rw [e7]; exact hTc
      refine loop (P := fun i => ∀ g', PQ g1 g' (f i) → rI 199 m_X12_played 21 [some (vR 134), some (vI ((t : Int))), some (vI ((i : Int)))] [] dd sh (g') (fun r' g3 => res = r' ∧ i32 res ∧ Inv dd sh g3)) (n := kk) ?_ ?_ 0 (by omega) g1 ⟨fun _ _ _ _ _ => rfl, fun _ _ _ => rfl, by rw [e5, f0]⟩
      · intro g' hp
        have e7' : g' 137 = g 137 := by rw [hp.1 137 (by decide) (by decide) (by decide) (by decide)]; exact e7
        refine r_X12_played_21 ?_
        rw [show (681 * (t : Int)).toNat = 681 * t by omega, e7', hTc]
        rcases hend with ⟨rfl, rfl, rfl⟩ | ⟨hlt, hP, rfl⟩
        · exact ⟨by omega, by omega, ⟨by omega, by omega⟩, ⟨by omega, by omega⟩, fun _ => ⟨rfl, ⟨by decide, by decide⟩, fin g' hp⟩, fun h => absurd h (by omega)⟩
        · refine ⟨by omega, by omega, ⟨by omega, by omega⟩, ⟨by omega, by omega⟩, fun h => absurd h (by omega), fun _ => ?_⟩
          exact step kk bf 0 hlt (Nat.le_refl _) hC.1.ab hP g' _ hp fun g3 h3 => ⟨⟨by decide, by decide⟩, fun h => absurd rfl h, fun _ => ⟨rfl, ⟨by omega, by omega⟩, fin g3 h3⟩⟩
      · intro i hi ih g' hp
        have e7' : g' 137 = g 137 := by rw [hp.1 137 (by decide) (by decide) (by decide) (by decide)]; exact e7
        refine r_X12_played_21 ?_
        rw [show (681 * (t : Int)).toNat = 681 * t by omega, e7', hTc]
        refine ⟨by omega, by omega, ⟨by omega, by omega⟩, ⟨by omega, by omega⟩, fun h => absurd h (by omega), fun _ => ?_⟩
        exact step i (f (i + 1)) 1 (by omega) (by omega) (hfa (i + 1) (by omega)).1 (hch i hi) g' _ hp fun g3 h3 => ⟨⟨by decide, by decide⟩, fun _ => ih g3 h3, fun h => absurd h (by decide)⟩
    refine ⟨fun _ => ?_, fun h => absurd h (by omega)⟩
    refine loop (P := fun k => ∀ (g' : Nat → Nat → Int) (f : Nat → Nat → Int), f 0 = g 135 → (∀ i, i < k → PL (g 137) (g 137 (681 * t + 1 + 3 * i)) (g 137 (681 * t + 2 + 3 * i)) (g 137 (681 * t + 3 + 3 * i)) (f i) (f (i + 1)) 1) → (∀ i, i ≤ k → AB (f i) ∧ (0 ≤ f i 4 ∧ f i 4 ≤ 30) ∧ f i 2 = g 135 2 ∧ f i 3 = g 135 3) → PF g g' → CSt g' (g 135) (f k) → rI 199 m_X11_played 18 [some (vR 1), none, some (vR ((149 + 7 * j))), some (vI ((k : Int)))] [] dd sh (g') (fun r1 g2 => cI 200 m_X12_played [vR 134, vI (t : Int)] dd sh g2 (fun r' g3 => r1 = r' ∧ i32 r1 ∧ Inv dd sh g3))) (n := c) ?_ ?_ 0 (by omega) g (fun _ => g 135) rfl (fun i hi => absurd hi (by omega)) (fun i _ => ⟨hI.s.ab, hI.h.st.2, rfl, rfl⟩) PF.rf ⟨hI.s, hI.nn, hI.h, rfl, rfl⟩
    · intro g' f f0 hch hfa hpf hC
      have ec : g' (149 + 7 * j) 3 = (c : Int) := by rw [hpf _ (by omega) (by omega) (by omega)]; exact hgc
      refine r_X11_played_18 ?_
      rw [ec]
      exact ⟨by omega, t0, ⟨by omega, by omega⟩, ⟨by omega, by omega⟩, fun _ => ref g' c f (f c) (-1) (Nat.le_refl _) f0 hch hfa hpf hC (Or.inl ⟨rfl, rfl, rfl⟩), fun h => absurd h (by omega)⟩
    · intro k hk ih g' f f0 hch hfa hpf hC
      have ec : g' (149 + 7 * j) 3 = (c : Int) := by rw [hpf _ (by omega) (by omega) (by omega)]; exact hgc
      have e7 : g' 137 = g 137 := hpf 137 (by decide) (by decide) (by decide)
      refine r_X11_played_18 ?_
      rw [ec]
      refine ⟨by omega, t0, ⟨by omega, by omega⟩, ⟨by omega, by omega⟩, fun h => absurd h (by omega), fun _ => ?_⟩
      refine s_X5_playClause (d := 190) (t := t) (c := c) hC hj ec hc24 hk ?_ ?_ fun g2 b r f2 hP hC2 hr => ?_
      · rw [e7]
        obtain ⟨q1, q2, q3, q4, q5⟩ := hcl k hk
        unfold ClOk
        rw [hpf (149 + 7 * j + 4) (by omega) (by omega) (by omega), hpf (149 + 7 * j + 5) (by omega) (by omega) (by omega), hpf (149 + 7 * j + 6) (by omega) (by omega) (by omega)]
        exact ⟨q1, q2, q3, q4, q5⟩
      · rw [e7]
        exact hI.xt.fr (hfa k (Nat.le_refl _)).2.2.1 fun q hq => hpf q (by omega) (by omega) (by omega)
      · rw [e7] at hP
        rcases hr with rfl | rfl
        · exact ⟨⟨by decide, by decide⟩, fun h => absurd rfl h, fun _ => ref g2 k f b (k : Int) (by omega) f0 hch hfa (hpf.tr f2) hC2 (Or.inr ⟨hk, hP, rfl⟩)⟩
        · refine ⟨⟨by decide, by decide⟩, fun _ => ?_, fun h => absurd h (by decide)⟩
          refine ih g2 (fun i => if i = k + 1 then b else f i) (by show (if 0 = k + 1 then b else f 0) = g 135; rw [if_neg (by omega)]; exact f0) (fun i hi => ?_) (fun i hi => ?_) (hpf.tr f2) (by show CSt g2 (g 135) (if k + 1 = k + 1 then b else f (k + 1)); rw [if_pos rfl]; exact hC2)
          · show PL (g 137) _ _ _ (if i = k + 1 then b else f i) (if i + 1 = k + 1 then b else f (i + 1)) 1
            by_cases e : i = k
            · subst e
              rw [if_neg (by omega), if_pos rfl]; exact hP
            · rw [if_neg (by omega), if_neg (by omega)]
              exact hch i (by omega)
          · show AB (if i = k + 1 then b else f i) ∧ (0 ≤ (if i = k + 1 then b else f i) 4 ∧ (if i = k + 1 then b else f i) 4 ≤ 30) ∧ (if i = k + 1 then b else f i) 2 = g 135 2 ∧ (if i = k + 1 then b else f i) 3 = g 135 3
            by_cases e : i = k + 1
            · subst e
              rw [if_pos rfl]
              exact ⟨hC2.1.ab, hC2.2.2.1.st.2, hC2.2.2.2.1, hC2.2.2.2.2⟩
            · rw [if_neg e]; exact hfa i (by omega)
  · refine ⟨fun h => absurd rfl h, fun _ => ?_⟩
    refine mkI (ls := [some (vR 134), some (vI a1), none]) rfl rfl rfl rfl rfl (r_X12_played_0 ?_)
    exact s_X12_isIn h1 ⟨by decide, by decide⟩ ⟨by omega, by omega⟩ (fun h3 h4 => absurd ⟨h3, by omega⟩ c1) (fun _ => ⟨⟨by decide, by decide⟩, fun h => absurd rfl h, fun _ => ⟨rfl, ⟨by decide, by decide⟩, hI⟩⟩)
