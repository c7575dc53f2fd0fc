-- what is kept ahead of a step
theorem RT.mv {r a b : Nat → Int} {x y : Nat} (H : RT r a x) (e : ∀ k, k < 78 → b (y + k) = a (x + k)) (h0 : a 0 ≤ b 0) (h1 : a 1 ≤ b 1) : RT r b y := by
  unfold RT at H ⊢
  have e0 := e 0 (by omega)
  have e1 := e 1 (by omega)
  have e2 := e 2 (by omega)
  have e3 := e 3 (by omega)
  have e4 := e 4 (by omega)
  have e5 := e 5 (by omega)
  rw [Nat.add_zero, Nat.add_zero] at e0
  rw [e0, e1, e2, e3, e4, e5]
  obtain ⟨g1, g2, g3, g4, g5, g6, g7, g8, g9, g10, g11, g12, g13, g14⟩ := H
  refine ⟨⟨g1.1, by omega, by omega⟩, ⟨g2.1, by omega⟩, g3, g4, g5, g6, g7, g8, fun p hp hq => ?_, g10, g11, fun c hc hq => ?_, g13, fun i hi => ?_⟩
  · have f1 := e (6 + 3 * p) (by omega)
    have f2 := e (7 + 3 * p) (by omega)
    have f3 := e (8 + 3 * p) (by omega)
    simp only [← Nat.add_assoc] at f1 f2 f3
    rw [f1, f2, f3]; exact g9 p hp hq
  · have f1 := e (24 + 2 * c) (by omega)
    have f2 := e (25 + 2 * c) (by omega)
    simp only [← Nat.add_assoc] at f1 f2
    rw [f1, f2]; exact g12 c hc hq
  · have f1 := e (38 + i) (by omega)
    simp only [← Nat.add_assoc] at f1
    rw [f1]
    have := g14 i hi
    omega
/-- a row of the class that holds the stage's cells -/
def savedR (s se ha bk r : Nat → Int) : Prop := (r 0 = s 0 ∧ r 1 = s 8 ∧ r 2 = s 9 ∧ r 3 = s 2 ∧ r 4 = s 12 ∧ r 5 = s 13 ∧ r 6 = s 14 ∧ r 7 = s 16 ∧ r 8 = s 17) ∧ (∀ p, p < 6 → r (10 + p) = se p ∧ r (16 + p) = ha p) ∧ ∀ i, i < 40 → r (22 + i) = bk i
/-- the reference's cells from x on hold those of a -/
def svB (a b : Nat → Int) (x : Nat) : Prop := (b x = a 0 ∧ b (x + 1) = a 1) ∧ (∀ k, k < 4 → b (x + 2 + k) = a (10 + k)) ∧ (∀ p, p < 6 → ∀ k, k < 3 → b (x + 6 + 3 * p + k) = a (18 + 7 * p + k)) ∧ (∀ c, c < 7 → ∀ k, k < 2 → b (x + 24 + 2 * c + k) = a (60 + 4 * c + k)) ∧ ∀ k, k < 40 → b (x + 38 + k) = a (2524 + k)
def keepB (a b : Nat → Int) (n : Nat) : Prop := (∀ k, k ≠ 4 → (k < 184 ∨ 2524 ≤ k) → b k = a k) ∧
  ((n = 30 ∧ b 4 = 30 ∧ (∀ k, 184 ≤ k → k < 2446 → b k = a (k + 78)) ∧ svB a b 2446) ∨ (n < 30 ∧ b 4 = (n : Int) + 1 ∧ (∀ k, 184 ≤ k → k < 184 + 78 * n → b k = a k) ∧ svB a b (184 + 78 * n)))
theorem savedRT {s nv se ts ha he le bk a b r : Nat → Int} {x : Nat} (H : RS s nv se ts ha he le bk a) (hr : savedR s se ha bk r) (hb : svB a b x) (h0 : b 0 = a 0) (h1 : b 1 = a 1) : RT r b x := by
  obtain ⟨⟨r0, r1, r2, r3, r4, r5, r6, r7, r8⟩, rp, rb⟩ := hr
  obtain ⟨⟨b0, b1⟩, bk4, bp, bc, bb⟩ := hb
  have hn := H.n
  have hm := H.m
  have hnt := H.night
  have htk := H.tak
  have hx := H.x
  have hw := H.wr
  have hel := H.el
  have hbt := H.bits
  have q0 := bk4 0 (by omega)
  have q1 := bk4 1 (by omega)
  have q2 := bk4 2 (by omega)
  have q3 := bk4 3 (by omega)
  simp only [Nat.add_zero, Nat.add_assoc, Nat.reduceAdd] at q0 q1 q2 q3
  unfold RT
  rw [b0, b1, q0, q1, q2, q3, h0, h1, r0, r1, r2, r3, r4, r5, r6, r7, r8]
  refine ⟨by omega, by omega, by omega, by omega, by omega, by omega, by omega, by omega, fun p hp hq => ?_, fun p hp => ?_, fun p hp hq => (H.pr p hp hq).2.1, fun c hc hq => ?_, fun c hc hq => H.cr c hc hq, fun i hi => ?_⟩
  · have f0 := bp p hp 0 (by omega)
    have f1 := bp p hp 1 (by omega)
    have f2 := bp p hp 2 (by omega)
    have hpp := H.pp p hp hq
    rw [(rp p hp).1, (rp p hp).2, show x + 6 + 3 * p = x + 6 + 3 * p + 0 from rfl, f0, show x + 7 + 3 * p = x + 6 + 3 * p + 1 by omega, f1, show x + 8 + 3 * p = x + 6 + 3 * p + 2 by omega, f2, show 18 + 7 * p + 0 = 18 + 7 * p from rfl, show 18 + 7 * p + 1 = 19 + 7 * p by omega, show 18 + 7 * p + 2 = 20 + 7 * p by omega]
    exact ⟨hpp.2.2.1, hpp.2.2.2.1, hpp.2.2.2.2.1⟩
  · have hpb := H.pb p hp
    rw [(rp p hp).1, (rp p hp).2]; exact ⟨hpb.2.1, hpb.2.2.2⟩
  · have f0 := bc c hc 0 (by omega)
    have f1 := bc c hc 1 (by omega)
    have hcc := H.cc c hc hq
    rw [show x + 24 + 2 * c = x + 24 + 2 * c + 0 from rfl, f0, show x + 25 + 2 * c = x + 24 + 2 * c + 1 by omega, f1, show 60 + 4 * c + 0 = 60 + 4 * c from rfl, show 60 + 4 * c + 1 = 61 + 4 * c by omega]
    exact hcc.2.2
  · have hbk := H.bk i hi
    have hj : ((s 16 + (i : Int)) % 40).toNat < 40 := by omega
    rw [rb _ hj, bb i (by omega)]
    exact hbk
theorem RH.keep {s nv se ts ha he le bk a b h h' r : Nat → Int} {row row' : Nat → Nat → Int} {n z : Nat} (H : RS s nv se ts ha he le bk a) (hh : RH h row a) (hn : a 4 = n) (hb : keepB a b n)
    (e : ∀ k, k ≠ 3 → k ≠ 4 → h' k = h k) (eh : (n < 30 → h' 3 = h 3 ∧ h' 4 = (n : Int) + 1 ∧ (z : Int) = (h 3 + n) % 30) ∧ (n = 30 → h' 3 = (h 3 + 1) % 30 ∧ h' 4 = 30 ∧ (z : Int) = h 3))
    (er : ∀ k, k ≠ z → k < 30 → row' k = row k) (ez : savedR s se ha bk (row' z)) : RH h' row' b := by
  have hel := hh.el
  have hst := hh.st
  obtain ⟨b1, b2⟩ := hb
  have x0 := b1 0 (by omega) (by omega)
  have x1 := b1 1 (by omega) (by omega)
  rcases b2 with ⟨h30, c4, c1, c2⟩ | ⟨h30, c4, c1, c2⟩
  · obtain ⟨g1, g2, g3⟩ := eh.2 h30
    refine ⟨by omega, by omega, ?_, ?_, fun j hj => ?_⟩
    · rw [e 6 (by omega) (by omega), b1 2 (by omega) (by omega)]; exact hh.tx
    · rw [e 7 (by omega) (by omega), b1 3 (by omega) (by omega), b1 2 (by omega) (by omega)]; exact hh.ru
    · by_cases hj9 : j = 29
      · subst hj9
        have ez2 : ((h' 3 + ((29 : Nat) : Int)) % 30).toNat = z := by omega
        rw [ez2]
        exact savedRT H ez c2 x0 x1
      · have e1 : ((h' 3 + (j : Int)) % 30).toNat = ((h 3 + ((j + 1 : Nat) : Int)) % 30).toNat := by omega
        rw [er _ (by omega) (by omega), e1]
        exact (hh.rt (j + 1) (by omega)).mv (fun k hk => by rw [c1 _ (by omega) (by omega)]; congr 1; omega) (by omega) (by omega)
  · obtain ⟨g1, g2, g3⟩ := eh.1 h30
    refine ⟨by omega, by omega, ?_, ?_, fun j hj => ?_⟩
    · rw [e 6 (by omega) (by omega), b1 2 (by omega) (by omega)]; exact hh.tx
    · rw [e 7 (by omega) (by omega), b1 3 (by omega) (by omega), b1 2 (by omega) (by omega)]; exact hh.ru
    · rw [g1]
      by_cases hj9 : j = n
      · subst hj9
        have ez2 : ((h 3 + (j : Int)) % 30).toNat = z := by omega
        rw [ez2]
        exact savedRT H ez c2 x0 x1
      · rw [er _ (by omega) (by omega)]
        exact (hh.rt j (by omega)).mv (fun k hk => by rw [c1 _ (by omega) (by omega)]) (by omega) (by omega)
theorem s_X7_saveTo {d : Nat} {dd : List (Nat × Nat)} {sh : Nat → Nat → Nat} {g : Nat → Nat → Int} {K : (Nat → Nat → Int) → Prop} {p1 : Nat} (hp : p1 ≠ 0 ∧ p1 ≠ 3 ∧ p1 ≠ 5 ∧ p1 ≠ 7 ∧ p1 ≠ 10) (hT : (T0 ++ dyn dd)[p1]? = some (0, 62)) (hK : ∀ g', (∀ q, q ≠ p1 → g' q = g q) → savedR (g 3) (g 5) (g 7) (g 10) (g' p1) → K g') : cV (d + 1) m_X7_saveTo [(vR 3), (vR p1)] dd sh g K := by
  obtain ⟨hp0, hp3, hp5, hp7, hp10⟩ := hp
  refine mkV (ls := [some (vR 3), some (vR p1), none]) rfl rfl rfl rfl rfl (r_X7_saveTo_0 ?_)
  rw [lenT hT]
  simp only [up_off (Ne.symm hp3)]
  have h114 : ∀ g', (∀ q, q ≠ p1 → g' q = g q) → (g' p1 0 = g 3 0 ∧ g' p1 1 = g 3 8 ∧ g' p1 2 = g 3 9 ∧ g' p1 3 = g 3 2 ∧ g' p1 4 = g 3 12 ∧ g' p1 5 = g 3 13 ∧ g' p1 6 = g 3 14 ∧ g' p1 7 = g 3 16 ∧ g' p1 8 = g 3 17) → (∀ p, p < 6 → g' p1 (10 + p) = g 5 p ∧ g' p1 (16 + p) = g 7 p) → rV d m_X7_saveTo 114 [some (vR 3), some (vR p1), some (vI 0)] [] dd sh (g') K := by
    intro g' h1 h2 h3
    refine loop (P := fun k => ∀ g', (∀ q, q ≠ p1 → g' q = g q) → (g' p1 0 = g 3 0 ∧ g' p1 1 = g 3 8 ∧ g' p1 2 = g 3 9 ∧ g' p1 3 = g 3 2 ∧ g' p1 4 = g 3 12 ∧ g' p1 5 = g 3 13 ∧ g' p1 6 = g 3 14 ∧ g' p1 7 = g 3 16 ∧ g' p1 8 = g 3 17) → (∀ p, p < 6 → g' p1 (10 + p) = g 5 p ∧ g' p1 (16 + p) = g 7 p) → (∀ i, i < k → g' p1 (22 + i) = g 10 i) → rV d m_X7_saveTo 114 [some (vR 3), some (vR p1), some (vI ((k : Int)))] [] dd sh (g') K) (n := 40) ?_ ?_ 0 (by omega) g' h1 h2 h3 (fun i hi => absurd hi (by omega))
    · intro g' h1 h2 h3 h4
      refine r_X7_saveTo_114 ?_
      exact ⟨⟨by omega, by omega⟩, fun _ => hK g' h1 ⟨h2, h3, h4⟩, fun h => absurd h (by omega)⟩
    · intro k hk ih g' h1 h2 h3 h4
      have hh := ih (up g' p1 (22 + k) (g' 10 k)) (fun q hq => by rw [up_off hq, h1 q hq]) (by simp [up]; omega) (fun p hp => by have := h3 p hp; simp [up]; omega) (fun i hi => by
        by_cases hik : i = k
        · subst hik; simp [up, h1 10 (Ne.symm hp10)]
        · have := h4 i (by omega); simp [up]; omega)
      refine r_X7_saveTo_114 ?_
      rw [lenT hT, show (22 + (k : Int)).toNat = 22 + k by omega, show ((k : Int)).toNat = k from rfl]
      exact ⟨⟨by omega, by omega⟩, fun h => absurd h (by omega), fun _ => ⟨by omega, by omega, arT hp0 hT, by omega, by omega, hh⟩⟩
  have h76 : ∀ g', (∀ q, q ≠ p1 → g' q = g q) → (g' p1 0 = g 3 0 ∧ g' p1 1 = g 3 8 ∧ g' p1 2 = g 3 9 ∧ g' p1 3 = g 3 2 ∧ g' p1 4 = g 3 12 ∧ g' p1 5 = g 3 13 ∧ g' p1 6 = g 3 14 ∧ g' p1 7 = g 3 16 ∧ g' p1 8 = g 3 17) → rV d m_X7_saveTo 76 [some (vR 3), some (vR p1), some (vI 0)] [] dd sh (g') K := by
    intro g' h1 h2
    refine loop (P := fun k => ∀ g', (∀ q, q ≠ p1 → g' q = g q) → (g' p1 0 = g 3 0 ∧ g' p1 1 = g 3 8 ∧ g' p1 2 = g 3 9 ∧ g' p1 3 = g 3 2 ∧ g' p1 4 = g 3 12 ∧ g' p1 5 = g 3 13 ∧ g' p1 6 = g 3 14 ∧ g' p1 7 = g 3 16 ∧ g' p1 8 = g 3 17) → (∀ p, p < k → g' p1 (10 + p) = g 5 p ∧ g' p1 (16 + p) = g 7 p) → rV d m_X7_saveTo 76 [some (vR 3), some (vR p1), some (vI ((k : Int)))] [] dd sh (g') K) (n := 6) ?_ ?_ 0 (by omega) g' h1 h2 (fun i hi => absurd hi (by omega))
    · intro g' h1 h2 h3
      refine r_X7_saveTo_76 ?_
      exact ⟨⟨by omega, by omega⟩, fun _ => h114 g' h1 h2 h3, fun h => absurd h (by omega)⟩
    · intro k hk ih g' h1 h2 h3
      have hh := ih (up (up g' p1 (10 + k) (g' 5 k)) p1 (16 + k) (g' 7 k)) (fun q hq => by rw [up_off hq, up_off hq, h1 q hq]) (by simp [up]; omega) (fun p hp => by
        by_cases hik : p = k
        · subst hik; simp [up, h1 5 (Ne.symm hp5), h1 7 (Ne.symm hp7)]
        · have := h3 p (by omega); simp [up]; omega)
      refine r_X7_saveTo_76 ?_
      rw [lenT hT, show (10 + (k : Int)).toNat = 10 + k by omega, show (16 + (k : Int)).toNat = 16 + k by omega, show ((k : Int)).toNat = k from rfl, up_off (Ne.symm hp7)]
      exact ⟨⟨by omega, by omega⟩, fun h => absurd h (by omega), fun _ => ⟨by omega, by omega, arT hp0 hT, by omega, by omega, by omega, by omega, hh⟩⟩
  refine ⟨arT hp0 hT, ⟨by decide, by decide⟩, fun _ => ⟨by decide, by decide, by decide, by decide, by decide, by decide, by decide, by decide, by decide, ?_⟩, fun h => absurd h (by decide)⟩
  refine h76 _ (fun q hq => by repeat rw [up_off hq]) ?_
  simp [up]
theorem s_X1_latestStep {d : Nat} {dd : List (Nat × Nat)} {sh : Nat → Nat → Nat} {g : Nat → Nat → Int} {K : Int → (Nat → Nat → Int) → Prop} (h : 0 ≤ g 2 3 + g 2 4 - 1 ∧ g 2 3 + g 2 4 - 1 < 100) (hK : ∀ r, r = (g 2 3 + g 2 4 - 1) % 30 → 0 ≤ r → r < 30 → K r g) : cI (d + 2) m_X1_latestStep [(vR 2)] dd sh g K := by
  refine mkI (ls := [some (vR 2)]) rfl rfl rfl rfl rfl (r_X1_latestStep_0 ?_)
  exact s_J9_floorMod h.1 h.2 (Or.inr rfl) hK
theorem rho20 (sh : Nat → Nat → Nat) : ∀ z, z < 30 → rho sh 20 z = 21 + z := by
  intro z hz
  have : ∀ z : Fin 30, (R0t.getD 20 []).getD z.val 0 = 21 + z.val := by decide
  exact this ⟨z, hz⟩
theorem T_rows (dd : List (Nat × Nat)) : ∀ z, z < 30 → (T0 ++ dyn dd)[21 + z]? = some (0, 62) := by
  intro z hz
  have h : ∀ z : Fin 30, T0[21 + z.val]? = some (0, 62) := by decide
  have h3 : T0.length = 149 := by decide +kernel
  have h2 : 21 + z < T0.length := by omega
  rw [List.getElem?_append_left h2]
  exact h ⟨z, hz⟩
set_option maxRecDepth 8000 in
theorem s_X1_noteStep {d : Nat} {dd : List (Nat × Nat)} {sh : Nat → Nat → Nat} {g : Nat → Nat → Int} {K : (Nat → Nat → Int) → Prop} {a : Nat → Int} {n : Nat} (hS : RSc g a) (hH : RHc g a) (hn : a 4 = n) (hK : ∀ g', (∀ q, q ≠ 2 → (q < 21 ∨ 50 < q) → g' q = g q) → (∀ b, keepB a b n → RHc g' b) → K g') : cV (d + 3) m_X1_noteStep [(vR 2)] dd sh g K := by
  have hel := hH.el
  have hst := hH.st
  refine mkV (ls := [some (vR 2)]) rfl rfl rfl rfl rfl (r_X1_noteStep_0 ?_)
  by_cases h30 : n = 30
  · have hcon : ∀ r : Int, r = ((g 2 3 + 1) % 30 + g 2 4 - 1) % 30 → 0 ≤ r → r < 30 → cV (d + 2) m_X7_saveTo [vR 3, vR (rho sh 20 r.toNat)] dd sh (up g 2 3 ((g 2 3 + 1) % 30)) K := by
      intro r h1 h2 h3
      obtain ⟨z, rfl⟩ := Int.eq_ofNat_of_zero_le h2
      rw [show ((z : Int)).toNat = z from rfl, rho20 sh z (by omega)]
      refine s_X7_saveTo (by omega) (T_rows dd z (by omega)) fun g' f1 f2 => hK g' (fun q hq hq2 => by rw [f1 q (by omega), up_off hq]) fun b hb => ?_
      refine RH.keep (h := g 2) (row := fun k => g (21 + k)) (r := g 2) (z := z) hS hH hn hb (fun k hk hk2 => ?_) ⟨fun h => absurd h (by omega), fun _ => ⟨?_, ?_, ?_⟩⟩ (fun k hk hk2 => ?_) f2
      · rw [f1 2 (by omega)]; simp [up, hk]
      · rw [f1 2 (by omega)]; simp [up]
      · rw [f1 2 (by omega)]; simp [up] <;> omega
      · omega
      · show g' (21 + k) = g (21 + k)
        rw [f1 (21 + k) (by omega), up_off (by omega)]
    rw [Int.tmod_eq_emod_of_nonneg (a := g 2 3 + 1) (by omega)]
    have hcon2 := hcon
    repeat' (first
      | (refine imp_mk ?_; intro hh; first | contradiction | (exfalso; omega) | skip)
      | (refine s_X1_latestStep (by simp [up] <;> omega) (fun r h1 h2 h3 => ?_))
      | (exact hcon _ (by assumption) (by omega) (by omega))
      | refine And.intro ?_ ?_
      | omega)
  · have hcon : ∀ r : Int, r = (g 2 3 + (g 2 4 + 1) - 1) % 30 → 0 ≤ r → r < 30 → cV (d + 2) m_X7_saveTo [vR 3, vR (rho sh 20 r.toNat)] dd sh (up g 2 4 (g 2 4 + 1)) K := by
      intro r h1 h2 h3
      obtain ⟨z, rfl⟩ := Int.eq_ofNat_of_zero_le h2
      rw [show ((z : Int)).toNat = z from rfl, rho20 sh z (by omega)]
      refine s_X7_saveTo (by omega) (T_rows dd z (by omega)) fun g' f1 f2 => hK g' (fun q hq hq2 => by rw [f1 q (by omega), up_off hq]) fun b hb => ?_
      refine RH.keep (h := g 2) (row := fun k => g (21 + k)) (r := g 2) (z := z) hS hH hn hb (fun k hk hk2 => ?_) ⟨fun _ => ⟨?_, ?_, ?_⟩, fun h => absurd h (by omega)⟩ (fun k hk hk2 => ?_) f2
      · rw [f1 2 (by omega)]; simp [up, hk2]
      · rw [f1 2 (by omega)]; simp [up]
      · rw [f1 2 (by omega)]; simp [up] <;> omega
      · omega
      · show g' (21 + k) = g (21 + k)
        rw [f1 (21 + k) (by omega), up_off (by omega)]
    repeat' (first
      | (refine imp_mk ?_; intro hh; first | contradiction | (exfalso; omega) | skip)
      | (refine s_X1_latestStep (by simp [up] <;> omega) (fun r h1 h2 h3 => ?_))
      | (exact hcon _ (by assumption) (by omega) (by omega))
      | refine And.intro ?_ ?_
      | omega)
