-- the image, and back to it
section CP
variable {s nv se ts ha he le bk a b s' nv' se' ts' ha' he' le' bk' w rk sz l0 l1 l2 l3 w' rk' sz' l0' l1' l2' l3' h h' : Nat → Int} {row row' : Nat → Nat → Int}
theorem RS.cp (H : RS s nv se ts ha he le bk a) (es : (s' 0 = s 0 ∧ s' 1 = s 1 ∧ s' 2 = s 2 ∧ s' 7 = s 7 ∧ s' 8 = s 8 ∧ s' 9 = s 9) ∧ (s' 12 = s 12 ∧ s' 13 = s 13 ∧ s' 14 = s 14 ∧ s' 16 = s 16 ∧ s' 17 = s 17)) (en : ∀ p, p < 6 → nv' p = nv p ∧ se' p = se p ∧ ts' p = ts p ∧ ha' p = ha p) (ec : ∀ c, c < 7 → he' c = he c ∧ le' c = le c) (ek : ∀ i, i < 40 → bk' i = bk i) (eb : ∀ k, k < 2564 → b k = a k) : RS s' nv' se' ts' ha' he' le' bk' b := by
  obtain ⟨⟨s0, s1, s2, s7, s8, s9⟩, s12, s13, s14, s16, s17⟩ := es
  have hw := H.wr
  unfold RS
  rw [s0, s1, s2, s7, s8, s9, s12, s13, s14, s16, s17, eb 0 (by omega), eb 1 (by omega), eb 10 (by omega), eb 11 (by omega), eb 12 (by omega), eb 13 (by omega)]
  refine ⟨H.n, H.m, H.night, H.tak, H.x, H.wr, H.el, H.bits, fun p hp hq => ?_, fun p hp => ?_, fun p hp hq => ?_, fun c hc hq => ?_, fun c hc => ?_, H.cr, fun i hi => ?_⟩
  · obtain ⟨e1, e2, e3, e4⟩ := en p hp
    rw [e1, e2, e3, e4, eb (16 + 7 * p) (by omega), eb (17 + 7 * p) (by omega), eb (18 + 7 * p) (by omega), eb (19 + 7 * p) (by omega), eb (20 + 7 * p) (by omega), eb (21 + 7 * p) (by omega)]; exact H.pp p hp hq
  · obtain ⟨e1, e2, e3, e4⟩ := en p hp
    rw [e1, e2, e3, e4]; exact H.pb p hp
  · rw [(en p hp).2.2.2]; exact H.pr p hp hq
  · rw [(ec c hc).1, (ec c hc).2, eb (58 + 4 * c) (by omega), eb (59 + 4 * c) (by omega), eb (60 + 4 * c) (by omega), eb (61 + 4 * c) (by omega)]; exact H.cc c hc hq
  · rw [(ec c hc).1, (ec c hc).2]; exact H.cb c hc
  · rw [ek _ (by omega), eb (2524 + i) (by omega)]; exact H.bk i hi
theorem RN.cp (H : RN w rk sz l0 l1 l2 l3 a) (ew : ∀ p, p < 6 → w' p = w p) (er : ∀ k, k < 9 → rk' k = rk k) (es : ∀ k, k < 4 → sz' k = sz k) (el : ∀ k, k < 8 → l0' k = l0 k ∧ l1' k = l1 k ∧ l2' k = l2 k ∧ l3' k = l3 k) (eb : ∀ k, k < 2564 → b k = a k) : RN w' rk' sz' l0' l1' l2' l3' b := by
  have q0 := H.s0
  have q1 := H.s1
  have q2 := H.s2
  have q3 := H.s3
  unfold RN
  rw [es 0 (by omega), es 1 (by omega), es 2 (by omega), es 3 (by omega), eb 0 (by omega), eb 1 (by omega), eb 5 (by omega), eb 6 (by omega), eb 7 (by omega), eb 8 (by omega)]
  refine ⟨fun p hp => ?_, fun k hk => ?_, q0, q1, q2, q3, fun k hk => ?_, fun k hk => ?_, fun k hk => ?_, fun k hk => ?_⟩
  · rw [ew p hp, eb (22 + 7 * p) (by omega)]; exact H.ww p hp
  · rw [er k hk, eb (174 + k) (by omega)]; exact H.rk k hk
  · rw [(el k (by omega)).1, eb (86 + 3 * k) (by omega), eb (87 + 3 * k) (by omega), eb (88 + 3 * k) (by omega)]; exact H.l0 k hk
  · rw [(el k (by omega)).2.1, eb (110 + 2 * k) (by omega), eb (111 + 2 * k) (by omega)]; exact H.l1 k hk
  · rw [(el k (by omega)).2.2.1, eb (126 + 3 * k) (by omega), eb (127 + 3 * k) (by omega), eb (128 + 3 * k) (by omega)]; exact H.l2 k hk
  · rw [(el k (by omega)).2.2.2, eb (150 + 3 * k) (by omega), eb (151 + 3 * k) (by omega), eb (152 + 3 * k) (by omega)]; exact H.l3 k hk
theorem RT.cp {r r' : Nat → Int} {x : Nat} (H : RT r a x) (er : ∀ k, k < 62 → r' k = r k) : RT r' a x := by
  unfold RT at H ⊢
  rw [er 0 (by omega), er 1 (by omega), er 2 (by omega), er 3 (by omega), er 4 (by omega), er 5 (by omega), er 6 (by omega), er 7 (by omega), er 8 (by omega)]
  obtain ⟨g1, g2, g3, g4, g5, g6, g7, g8, g9, g10, g11, g12, g13, g14⟩ := H
  refine ⟨g1, g2, g3, g4, g5, g6, g7, g8, fun p hp hq => ?_, fun p hp => ?_, g11, g12, g13, fun i hi => ?_⟩
  · rw [er (10 + p) (by omega), er (16 + p) (by omega)]; exact g9 p hp hq
  · rw [er (10 + p) (by omega), er (16 + p) (by omega)]; exact g10 p hp
  · rw [er _ (by omega)]; exact g14 i hi
theorem RH.cp (H : RH h row a) (e : h' 3 = h 3 ∧ h' 4 = h 4 ∧ h' 6 = h 6 ∧ h' 7 = h 7) (er : ∀ z, z < 30 → ∀ k, k < 62 → row' z k = row z k) (eb : ∀ k, k < 2564 → b k = a k) : RH h' row' b := by
  have hs := H.st
  have hel := H.el
  obtain ⟨e3, e4, e6, e7⟩ := e
  unfold RH
  rw [e3, e4, e6, e7, eb 2 (by omega), eb 3 (by omega), eb 4 (by omega)]
  refine ⟨H.st, H.el, H.tx, H.ru, fun j hj => ?_⟩
  exact ((H.rt j hj).cp (er _ (by omega))).fr (fun k h1 h2 => eb k (by omega)) (by rw [eb 0 (by omega)]; exact Int.le_refl _) (by rw [eb 1 (by omega)]; exact Int.le_refl _)
end CP
theorem s_copyR {d : Nat} {dd : List (Nat × Nat)} {sh : Nat → Nat → Nat} {g : Nat → Nat → Int} {K : (Nat → Nat → Int) → Prop} {p0 p1 n : Nat} (hp : p0 ≠ 0) (hq : p1 ≠ 0) (hpq : p0 ≠ p1) (h1 : (T0 ++ dyn dd)[p0]? = some (0, n)) (h2 : (T0 ++ dyn dd)[p1]? = some (0, n)) (hn : n ≤ 100000) (hK : ∀ g', (∀ q, q ≠ p1 → g' q = g q) → (∀ i, i < n → g' p1 i = g p0 i) → K g') : cV (d + 1) m_X11_copyRow [vR p0, vR p1] dd sh g K := by
  refine s_X11_copyRow hp hq hpq h1 h2 hn hn (hK _ (fun q hq => ?_) (fun i hi => ?_))
  · funext i; unfold cpy; rw [if_neg (by intro h; exact hq h.1)]
  · unfold cpy; rw [if_pos ⟨rfl, by omega⟩]
theorem rho70 (sh : Nat → Nat → Nat) : ∀ z, z < 30 → rho sh 70 z = 71 + z := by
  intro z hz
  have : ∀ z : Fin 30, (R0t.getD 70 []).getD z.val 0 = 71 + z.val := by decide +kernel
  exact this ⟨z, hz⟩
theorem T_rows7 (dd : List (Nat × Nat)) : ∀ z, z < 30 → (T0 ++ dyn dd)[71 + z]? = some (0, 62) := by
  intro z hz
  have h : ∀ z : Fin 30, T0[71 + z.val]? = some (0, 62) := by decide +kernel
  have h3 : T0.length = 149 := by decide +kernel
  have h2 : 71 + z < T0.length := by omega
  rw [List.getElem?_append_left h2]
  exact h ⟨z, hz⟩
theorem s_copyStage_a {d : Nat} {dd : List (Nat × Nat)} {sh : Nat → Nat → Nat} {g : Nat → Nat → Int} {K : (Nat → Nat → Int) → Prop} (hK : ∀ g', (∀ q, q ≠ 3 → q ≠ 4 → q ≠ 5 → q ≠ 6 → q ≠ 7 → q ≠ 8 → q ≠ 9 → q ≠ 10 → g' q = g q) → ((g' 3 0 = g 53 0 ∧ g' 3 1 = g 53 1 ∧ g' 3 2 = g 53 2 ∧ g' 3 7 = g 53 7 ∧ g' 3 8 = g 53 8 ∧ g' 3 9 = g 53 9) ∧ (g' 3 12 = g 53 12 ∧ g' 3 13 = g 53 13 ∧ g' 3 14 = g 53 14 ∧ g' 3 16 = g 53 16 ∧ g' 3 17 = g 53 17)) → (∀ p, p < 6 → g' 4 p = g 54 p ∧ g' 5 p = g 55 p ∧ g' 6 p = g 56 p ∧ g' 7 p = g 57 p) → (∀ c, c < 7 → g' 8 c = g 58 c ∧ g' 9 c = g 59 c) → (∀ i, i < 40 → g' 10 i = g 60 i) → K g') : cV (d + 2) m_X7_copyFrom [vR 3, vR 53] dd sh g K := by
  refine mkV (ls := [some (vR 3), some (vR 53)]) rfl rfl rfl rfl rfl (r_X7_copyFrom_a_0 ?_)
  refine s_copyR (by decide) (by decide) (by decide) (T_54 dd) (T_4 dd) (by decide) fun g1 f1 c1 => ?_
  refine s_copyR (by decide) (by decide) (by decide) (T_55 dd) (T_5 dd) (by decide) fun g2 f2 c2 => ?_
  refine s_copyR (by decide) (by decide) (by decide) (T_56 dd) (T_6 dd) (by decide) fun g3 f3 c3 => ?_
  refine s_copyR (by decide) (by decide) (by decide) (T_57 dd) (T_7 dd) (by decide) fun g4 f4 c4 => ?_
  refine s_copyR (by decide) (by decide) (by decide) (T_58 dd) (T_8 dd) (by decide) fun g5 f5 c5 => ?_
  refine s_copyR (by decide) (by decide) (by decide) (T_59 dd) (T_9 dd) (by decide) fun g6 f6 c6 => ?_
  refine s_copyR (by decide) (by decide) (by decide) (T_60 dd) (T_10 dd) (by decide) fun g7 f7 c7 => ?_
  refine hK _ (fun q h3 h4 h5 h6 h7 h8 h9 h10 => by rw [up_off h3, up_off h3, f7 q h10, up_off h3, up_off h3, up_off h3, f6 q h9, f5 q h8, up_off h3, up_off h3, up_off h3, f4 q h7, f3 q h6, f2 q h5, f1 q h4, up_off h3, up_off h3, up_off h3]) ?_ (fun p hp => ?_) (fun c hc => ?_) (fun i hi => ?_)
  · 
    have a1 := f1 3 (by decide)
    have b1 := f1 53 (by decide)
    have a2 := f2 3 (by decide)
    have b2 := f2 53 (by decide)
    have a3 := f3 3 (by decide)
    have b3 := f3 53 (by decide)
    have a4 := f4 3 (by decide)
    have b4 := f4 53 (by decide)
    have a5 := f5 3 (by decide)
    have b5 := f5 53 (by decide)
    have a6 := f6 3 (by decide)
    have b6 := f6 53 (by decide)
    have a7 := f7 3 (by decide)
    have b7 := f7 53 (by decide)
    simp [up, a1, a2, a3, a4, a5, a6, a7, b1, b2, b3, b4, b5, b6, b7]
  · refine ⟨?_, ?_, ?_, ?_⟩
    · rw [up_off (q := 4) (by decide), up_off (q := 4) (by decide), f7 4 (by decide), up_off (q := 4) (by decide), up_off (q := 4) (by decide), up_off (q := 4) (by decide), f6 4 (by decide), f5 4 (by decide), up_off (q := 4) (by decide), up_off (q := 4) (by decide), up_off (q := 4) (by decide), f4 4 (by decide), f3 4 (by decide), f2 4 (by decide), c1 _ hp, up_off (q := 54) (by decide), up_off (q := 54) (by decide), up_off (q := 54) (by decide)]
    · rw [up_off (q := 5) (by decide), up_off (q := 5) (by decide), f7 5 (by decide), up_off (q := 5) (by decide), up_off (q := 5) (by decide), up_off (q := 5) (by decide), f6 5 (by decide), f5 5 (by decide), up_off (q := 5) (by decide), up_off (q := 5) (by decide), up_off (q := 5) (by decide), f4 5 (by decide), f3 5 (by decide), c2 _ hp, f1 55 (by decide), up_off (q := 55) (by decide), up_off (q := 55) (by decide), up_off (q := 55) (by decide)]
    · rw [up_off (q := 6) (by decide), up_off (q := 6) (by decide), f7 6 (by decide), up_off (q := 6) (by decide), up_off (q := 6) (by decide), up_off (q := 6) (by decide), f6 6 (by decide), f5 6 (by decide), up_off (q := 6) (by decide), up_off (q := 6) (by decide), up_off (q := 6) (by decide), f4 6 (by decide), c3 _ hp, f2 56 (by decide), f1 56 (by decide), up_off (q := 56) (by decide), up_off (q := 56) (by decide), up_off (q := 56) (by decide)]
    · rw [up_off (q := 7) (by decide), up_off (q := 7) (by decide), f7 7 (by decide), up_off (q := 7) (by decide), up_off (q := 7) (by decide), up_off (q := 7) (by decide), f6 7 (by decide), f5 7 (by decide), up_off (q := 7) (by decide), up_off (q := 7) (by decide), up_off (q := 7) (by decide), c4 _ hp, f3 57 (by decide), f2 57 (by decide), f1 57 (by decide), up_off (q := 57) (by decide), up_off (q := 57) (by decide), up_off (q := 57) (by decide)]
  · refine ⟨?_, ?_⟩
    · rw [up_off (q := 8) (by decide), up_off (q := 8) (by decide), f7 8 (by decide), up_off (q := 8) (by decide), up_off (q := 8) (by decide), up_off (q := 8) (by decide), f6 8 (by decide), c5 _ hc, up_off (q := 58) (by decide), up_off (q := 58) (by decide), up_off (q := 58) (by decide), f4 58 (by decide), f3 58 (by decide), f2 58 (by decide), f1 58 (by decide), up_off (q := 58) (by decide), up_off (q := 58) (by decide), up_off (q := 58) (by decide)]
    · rw [up_off (q := 9) (by decide), up_off (q := 9) (by decide), f7 9 (by decide), up_off (q := 9) (by decide), up_off (q := 9) (by decide), up_off (q := 9) (by decide), c6 _ hc, f5 59 (by decide), up_off (q := 59) (by decide), up_off (q := 59) (by decide), up_off (q := 59) (by decide), f4 59 (by decide), f3 59 (by decide), f2 59 (by decide), f1 59 (by decide), up_off (q := 59) (by decide), up_off (q := 59) (by decide), up_off (q := 59) (by decide)]
  · rw [up_off (q := 10) (by decide), up_off (q := 10) (by decide), c7 _ hi, up_off (q := 60) (by decide), up_off (q := 60) (by decide), up_off (q := 60) (by decide), f6 60 (by decide), f5 60 (by decide), up_off (q := 60) (by decide), up_off (q := 60) (by decide), up_off (q := 60) (by decide), f4 60 (by decide), f3 60 (by decide), f2 60 (by decide), f1 60 (by decide), up_off (q := 60) (by decide), up_off (q := 60) (by decide), up_off (q := 60) (by decide)]
theorem s_copyNotes_a {d : Nat} {dd : List (Nat × Nat)} {sh : Nat → Nat → Nat} {g : Nat → Nat → Int} {K : (Nat → Nat → Int) → Prop} (hK : ∀ g', (∀ q, q ≠ 12 → q ≠ 13 → q ≠ 14 → q ≠ 16 → q ≠ 17 → q ≠ 18 → q ≠ 19 → g' q = g q) → (∀ p, p < 6 → g' 12 p = g 62 p) → (∀ k, k < 9 → g' 13 k = g 63 k) → (∀ k, k < 4 → g' 14 k = g 64 k) → (∀ k, k < 8 → g' 16 k = g 66 k ∧ g' 17 k = g 67 k ∧ g' 18 k = g 68 k ∧ g' 19 k = g 69 k) → K g') : cV (d + 2) m_X3_copyFrom [vR 11, vR 61] dd sh g K := by
  refine mkV (ls := [some (vR 11), some (vR 61), none]) rfl rfl rfl rfl rfl (r_X3_copyFrom_a_0 ?_)
  refine s_copyR (by decide) (by decide) (by decide) (T_62 dd) (T_12 dd) (by decide) fun g1 f1 c1 => ?_
  refine s_copyR (by decide) (by decide) (by decide) (T_63 dd) (T_13 dd) (by decide) fun g2 f2 c2 => ?_
  refine s_copyR (by decide) (by decide) (by decide) (T_64 dd) (T_14 dd) (by decide) fun g3 f3 c3 => ?_
  refine r_X3_copyFrom_a_35 ⟨⟨by decide, by decide⟩, fun h => absurd h (by decide), fun _ => ⟨by decide, by decide, ?_⟩⟩
  rw [show rho sh 65 ((0 : Int)).toNat = 66 from rfl, show rho sh 15 ((0 : Int)).toNat = 16 from rfl]
  refine s_copyR (by decide) (by decide) (by decide) (T_66 dd) (T_16 dd) (by decide) fun g4 f4 c4 => ?_
  rw [show ((0 : Int) + 1) = 1 from rfl]
  refine r_X3_copyFrom_a_35 ⟨⟨by decide, by decide⟩, fun h => absurd h (by decide), fun _ => ⟨by decide, by decide, ?_⟩⟩
  rw [show rho sh 65 ((1 : Int)).toNat = 67 from rfl, show rho sh 15 ((1 : Int)).toNat = 17 from rfl]
  refine s_copyR (by decide) (by decide) (by decide) (T_67 dd) (T_17 dd) (by decide) fun g5 f5 c5 => ?_
  rw [show ((1 : Int) + 1) = 2 from rfl]
  refine r_X3_copyFrom_a_35 ⟨⟨by decide, by decide⟩, fun h => absurd h (by decide), fun _ => ⟨by decide, by decide, ?_⟩⟩
  rw [show rho sh 65 ((2 : Int)).toNat = 68 from rfl, show rho sh 15 ((2 : Int)).toNat = 18 from rfl]
  refine s_copyR (by decide) (by decide) (by decide) (T_68 dd) (T_18 dd) (by decide) fun g6 f6 c6 => ?_
  rw [show ((2 : Int) + 1) = 3 from rfl]
  refine r_X3_copyFrom_a_35 ⟨⟨by decide, by decide⟩, fun h => absurd h (by decide), fun _ => ⟨by decide, by decide, ?_⟩⟩
  rw [show rho sh 65 ((3 : Int)).toNat = 69 from rfl, show rho sh 15 ((3 : Int)).toNat = 19 from rfl]
  refine s_copyR (by decide) (by decide) (by decide) (T_69 dd) (T_19 dd) (by decide) fun g7 f7 c7 => ?_
  rw [show ((3 : Int) + 1) = 4 from rfl]
  refine r_X3_copyFrom_a_35 ⟨⟨by decide, by decide⟩, fun _ => ?_, fun h => absurd h (by decide)⟩
  refine hK _ (fun q h12 h13 h14 h16 h17 h18 h19 => by rw [f7 q h19, f6 q h18, f5 q h17, f4 q h16, f3 q h14, f2 q h13, f1 q h12]) (fun k hk => ?_) (fun k hk => ?_) (fun k hk => ?_) (fun k hk => ⟨?_, ?_, ?_, ?_⟩)
  · rw [f7 12 (by decide), f6 12 (by decide), f5 12 (by decide), f4 12 (by decide), f3 12 (by decide), f2 12 (by decide), c1 _ hk]
  · rw [f7 13 (by decide), f6 13 (by decide), f5 13 (by decide), f4 13 (by decide), f3 13 (by decide), c2 _ hk, f1 63 (by decide)]
  · rw [f7 14 (by decide), f6 14 (by decide), f5 14 (by decide), f4 14 (by decide), c3 _ hk, f2 64 (by decide), f1 64 (by decide)]
  · rw [f7 16 (by decide), f6 16 (by decide), f5 16 (by decide), c4 _ hk, f3 66 (by decide), f2 66 (by decide), f1 66 (by decide)]
  · rw [f7 17 (by decide), f6 17 (by decide), c5 _ hk, f4 67 (by decide), f3 67 (by decide), f2 67 (by decide), f1 67 (by decide)]
  · rw [f7 18 (by decide), c6 _ hk, f5 68 (by decide), f4 68 (by decide), f3 68 (by decide), f2 68 (by decide), f1 68 (by decide)]
  · rw [c7 _ hk, f6 69 (by decide), f5 69 (by decide), f4 69 (by decide), f3 69 (by decide), f2 69 (by decide), f1 69 (by decide)]
/-- how the house's copy leaves the numbers (a) -/
def HC_a (g g' : Nat → Nat → Int) : Prop := (∀ q, (q < 2 ∨ 51 ≤ q) → g' q = g q) ∧
  (((g' 3 0 = g 53 0 ∧ g' 3 1 = g 53 1 ∧ g' 3 2 = g 53 2 ∧ g' 3 7 = g 53 7 ∧ g' 3 8 = g 53 8 ∧ g' 3 9 = g 53 9) ∧ (g' 3 12 = g 53 12 ∧ g' 3 13 = g 53 13 ∧ g' 3 14 = g 53 14 ∧ g' 3 16 = g 53 16 ∧ g' 3 17 = g 53 17)) ∧ (∀ p, p < 6 → g' 4 p = g 54 p ∧ g' 5 p = g 55 p ∧ g' 6 p = g 56 p ∧ g' 7 p = g 57 p) ∧ (∀ c, c < 7 → g' 8 c = g 58 c ∧ g' 9 c = g 59 c) ∧ (∀ i, i < 40 → g' 10 i = g 60 i)) ∧
  ((∀ p, p < 6 → g' 12 p = g 62 p) ∧ (∀ k, k < 9 → g' 13 k = g 63 k) ∧ (∀ k, k < 4 → g' 14 k = g 64 k) ∧ (∀ k, k < 8 → g' 16 k = g 66 k ∧ g' 17 k = g 67 k ∧ g' 18 k = g 68 k ∧ g' 19 k = g 69 k)) ∧
  (∀ z, z < 30 → ∀ k, k < 62 → g' (21 + z) k = g (71 + z) k) ∧ (g' 2 3 = g 52 3 ∧ g' 2 4 = g 52 4 ∧ g' 2 6 = g 52 6 ∧ g' 2 7 = g 52 7)
theorem s_copyHouse_a {d : Nat} {dd : List (Nat × Nat)} {sh : Nat → Nat → Nat} {g : Nat → Nat → Int} {K : List (Nat × Nat) → (Nat → Nat → Nat) → (Nat → Nat → Int) → Prop} (hsh : ∀ t, t < 4 → sh 101 t = 0 ∨ (T0 ++ dyn dd)[sh 101 t]? = some (19, 7)) (hK : ∀ sh' g', (∀ q, q ≠ 51 → sh' q = sh q) → (∀ t, t < 4 → sh' 51 t = sh 101 t) → HC_a g g' → K dd sh' g') : cWV (d + 3) m_X1_copyFrom [vR 2, vR 52] dd sh g K := by
  refine mkWV (ls := [some (vR 2), some (vR 52), none]) rfl rfl rfl rfl rfl (r_X1_copyFrom_a_0 ?_)
  refine s_copyStage_a fun g1 f1 c1 c2 c3 c4 => ?_
  refine s_copyNotes_a fun g2 f2 e1 e2 e3 e4 => ?_
  have o2 : ∀ q, q < 3 ∨ 20 ≤ q → g2 q = g q := fun q hq => by rw [f2 q (by omega) (by omega) (by omega) (by omega) (by omega) (by omega) (by omega), f1 q (by omega) (by omega) (by omega) (by omega) (by omega) (by omega) (by omega) (by omega)]
  refine loop (P := fun k => ∀ g', (∀ q, (q < 21 ∨ 51 ≤ q) → g' q = g2 q) → (∀ z, z < k → ∀ i, i < 62 → g' (21 + z) i = g (71 + z) i) → rWV (d + 2) m_X1_copyFrom 0 0 24 [some (vR 2), some (vR 52), some (vI (k : Int))] [] dd sh g' K) (n := 30) ?_ ?_ 0 (by omega) g2 (fun q hq => rfl) (fun z hz => absurd hz (by omega))
  · intro g' h1 h2
    refine r_X1_copyFrom_a_24 ⟨⟨by decide, by decide⟩, fun _ => ?_, fun h => absurd h (by decide)⟩
    have hHC : HC_a g (up (up (up (up g' 2 3 (g' 52 3)) 2 4 (g' 52 4)) 2 6 (g' 52 6)) 2 7 (g' 52 7)) := by
      have u : ∀ q, q ≠ 2 → q < 21 ∨ 51 ≤ q → (up (up (up (up g' 2 3 (g' 52 3)) 2 4 (g' 52 4)) 2 6 (g' 52 6)) 2 7 (g' 52 7)) q = g2 q := fun q hq hq2 => by rw [up_off hq, up_off hq, up_off hq, up_off hq, h1 q hq2]
      refine ⟨fun q hq => ?_, ⟨?_, fun p hp => ?_, fun c hc => ?_, fun i hi => ?_⟩, ⟨fun p hp => ?_, fun k hk => ?_, fun k hk => ?_, fun k hk => ?_⟩, fun z hz k hk => ?_, ?_⟩
      · rw [u q (by omega) (by omega), o2 q (by omega)]
      · rw [u 3 (by decide) (by decide), f2 3 (by decide) (by decide) (by decide) (by decide) (by decide) (by decide) (by decide)]; exact c1
      · rw [u 4 (by decide) (by decide), u 5 (by decide) (by decide), u 6 (by decide) (by decide), u 7 (by decide) (by decide), f2 4 (by decide) (by decide) (by decide) (by decide) (by decide) (by decide) (by decide), f2 5 (by decide) (by decide) (by decide) (by decide) (by decide) (by decide) (by decide), f2 6 (by decide) (by decide) (by decide) (by decide) (by decide) (by decide) (by decide), f2 7 (by decide) (by decide) (by decide) (by decide) (by decide) (by decide) (by decide)]; exact c2 p hp
      · rw [u 8 (by decide) (by decide), u 9 (by decide) (by decide), f2 8 (by decide) (by decide) (by decide) (by decide) (by decide) (by decide) (by decide), f2 9 (by decide) (by decide) (by decide) (by decide) (by decide) (by decide) (by decide)]; exact c3 c hc
      · rw [u 10 (by decide) (by decide), f2 10 (by decide) (by decide) (by decide) (by decide) (by decide) (by decide) (by decide)]; exact c4 i hi
      · rw [u 12 (by decide) (by decide), e1 p hp, f1 62 (by decide) (by decide) (by decide) (by decide) (by decide) (by decide) (by decide) (by decide)]
      · rw [u 13 (by decide) (by decide), e2 k hk, f1 63 (by decide) (by decide) (by decide) (by decide) (by decide) (by decide) (by decide) (by decide)]
      · rw [u 14 (by decide) (by decide), e3 k hk, f1 64 (by decide) (by decide) (by decide) (by decide) (by decide) (by decide) (by decide) (by decide)]
      · obtain ⟨w1, w2, w3, w4⟩ := e4 k hk
        rw [u 16 (by decide) (by decide), u 17 (by decide) (by decide), u 18 (by decide) (by decide), u 19 (by decide) (by decide), w1, w2, w3, w4, f1 66 (by decide) (by decide) (by decide) (by decide) (by decide) (by decide) (by decide) (by decide), f1 67 (by decide) (by decide) (by decide) (by decide) (by decide) (by decide) (by decide) (by decide), f1 68 (by decide) (by decide) (by decide) (by decide) (by decide) (by decide) (by decide) (by decide), f1 69 (by decide) (by decide) (by decide) (by decide) (by decide) (by decide) (by decide) (by decide)]
        exact ⟨rfl, rfl, rfl, rfl⟩
      · rw [up_off (by omega), up_off (by omega), up_off (by omega), up_off (by omega)]; exact h2 z hz k hk
      · have es2 : g' 52 = g 52 := by rw [h1 52 (by decide), o2 52 (by decide)]
        simp [up, es2]
    refine loop (P := fun k => ∀ sh', (∀ q, q ≠ 51 → sh' q = sh q) → (∀ t, t < k → sh' 51 t = sh 101 t) → rWV (d + 2) m_X1_copyFrom 0 0 69 [some (vR 2), some (vR 52), some (vI (k : Int))] [] dd sh' (up (up g' 2 3 (g' 52 3)) 2 4 (g' 52 4)) K) (n := 4) ?_ ?_ 0 (by omega) sh (fun q hq => rfl) (fun t ht => absurd ht (by omega))
    · intro sh' k1 k2
      refine r_X1_copyFrom_a_69 ⟨⟨by decide, by decide⟩, fun _ => ?_, fun h => absurd h (by decide)⟩
      rw [up_off (q := 52) (by decide), up_off (q := 52) (by decide)]
      exact hK _ _ k1 k2 hHC
    · intro k hk ih sh' k1 k2
      refine r_X1_copyFrom_a_69 ?_
      rw [show ((k : Int)).toNat = k from rfl, k1 101 (by decide)]
      refine ⟨⟨by omega, by omega⟩, fun h => absurd h (by omega), fun _ => ⟨by omega, by omega, hsh k hk, ?_⟩⟩
      refine ih _ (fun q hq => ?_) (fun t ht => ?_)
      · funext j; unfold up; rw [if_neg hq, k1 q hq]
      · unfold up; rw [if_pos rfl]
        by_cases htk : t = k
        · subst htk; rw [if_pos rfl]
        · rw [if_neg htk, k2 t (by omega)]
  · intro k hk ih g' h1 h2
    refine r_X1_copyFrom_a_24 ⟨⟨by omega, by omega⟩, fun h => absurd h (by omega), fun _ => ⟨by omega, by omega, ?_⟩⟩
    rw [show ((k : Int)).toNat = k from rfl, rho70 sh k hk, rho20 sh k hk]
    refine s_copyR (by omega) (by omega) (by omega) (T_rows7 dd k hk) (T_rows dd k hk) (by decide) fun g3 f3 c3' => ?_
    refine ih g3 (fun q hq => by rw [f3 q (by omega), h1 q hq]) (fun z hz i hi => ?_)
    by_cases hzk : z = k
    · subst hzk
      rw [c3' i hi, h1 _ (by omega), o2 _ (by omega)]
    · rw [f3 _ (by omega)]; exact h2 z (by omega) i hi
theorem s_copyStage_b {d : Nat} {dd : List (Nat × Nat)} {sh : Nat → Nat → Nat} {g : Nat → Nat → Int} {K : (Nat → Nat → Int) → Prop} (hK : ∀ g', (∀ q, q ≠ 53 → q ≠ 54 → q ≠ 55 → q ≠ 56 → q ≠ 57 → q ≠ 58 → q ≠ 59 → q ≠ 60 → g' q = g q) → ((g' 53 0 = g 3 0 ∧ g' 53 1 = g 3 1 ∧ g' 53 2 = g 3 2 ∧ g' 53 7 = g 3 7 ∧ g' 53 8 = g 3 8 ∧ g' 53 9 = g 3 9) ∧ (g' 53 12 = g 3 12 ∧ g' 53 13 = g 3 13 ∧ g' 53 14 = g 3 14 ∧ g' 53 16 = g 3 16 ∧ g' 53 17 = g 3 17)) → (∀ p, p < 6 → g' 54 p = g 4 p ∧ g' 55 p = g 5 p ∧ g' 56 p = g 6 p ∧ g' 57 p = g 7 p) → (∀ c, c < 7 → g' 58 c = g 8 c ∧ g' 59 c = g 9 c) → (∀ i, i < 40 → g' 60 i = g 10 i) → K g') : cV (d + 2) m_X7_copyFrom [vR 53, vR 3] dd sh g K := by
  refine mkV (ls := [some (vR 53), some (vR 3)]) rfl rfl rfl rfl rfl (r_X7_copyFrom_b_0 ?_)
  refine s_copyR (by decide) (by decide) (by decide) (T_4 dd) (T_54 dd) (by decide) fun g1 f1 c1 => ?_
  refine s_copyR (by decide) (by decide) (by decide) (T_5 dd) (T_55 dd) (by decide) fun g2 f2 c2 => ?_
  refine s_copyR (by decide) (by decide) (by decide) (T_6 dd) (T_56 dd) (by decide) fun g3 f3 c3 => ?_
  refine s_copyR (by decide) (by decide) (by decide) (T_7 dd) (T_57 dd) (by decide) fun g4 f4 c4 => ?_
  refine s_copyR (by decide) (by decide) (by decide) (T_8 dd) (T_58 dd) (by decide) fun g5 f5 c5 => ?_
  refine s_copyR (by decide) (by decide) (by decide) (T_9 dd) (T_59 dd) (by decide) fun g6 f6 c6 => ?_
  refine s_copyR (by decide) (by decide) (by decide) (T_10 dd) (T_60 dd) (by decide) fun g7 f7 c7 => ?_
  refine hK _ (fun q h3 h4 h5 h6 h7 h8 h9 h10 => by rw [up_off h3, up_off h3, f7 q h10, up_off h3, up_off h3, up_off h3, f6 q h9, f5 q h8, up_off h3, up_off h3, up_off h3, f4 q h7, f3 q h6, f2 q h5, f1 q h4, up_off h3, up_off h3, up_off h3]) ?_ (fun p hp => ?_) (fun c hc => ?_) (fun i hi => ?_)
  · 
    have a1 := f1 53 (by decide)
    have b1 := f1 3 (by decide)
    have a2 := f2 53 (by decide)
    have b2 := f2 3 (by decide)
    have a3 := f3 53 (by decide)
    have b3 := f3 3 (by decide)
    have a4 := f4 53 (by decide)
    have b4 := f4 3 (by decide)
    have a5 := f5 53 (by decide)
    have b5 := f5 3 (by decide)
    have a6 := f6 53 (by decide)
    have b6 := f6 3 (by decide)
    have a7 := f7 53 (by decide)
    have b7 := f7 3 (by decide)
    simp [up, a1, a2, a3, a4, a5, a6, a7, b1, b2, b3, b4, b5, b6, b7]
  · refine ⟨?_, ?_, ?_, ?_⟩
    · rw [up_off (q := 54) (by decide), up_off (q := 54) (by decide), f7 54 (by decide), up_off (q := 54) (by decide), up_off (q := 54) (by decide), up_off (q := 54) (by decide), f6 54 (by decide), f5 54 (by decide), up_off (q := 54) (by decide), up_off (q := 54) (by decide), up_off (q := 54) (by decide), f4 54 (by decide), f3 54 (by decide), f2 54 (by decide), c1 _ hp, up_off (q := 4) (by decide), up_off (q := 4) (by decide), up_off (q := 4) (by decide)]
    · rw [up_off (q := 55) (by decide), up_off (q := 55) (by decide), f7 55 (by decide), up_off (q := 55) (by decide), up_off (q := 55) (by decide), up_off (q := 55) (by decide), f6 55 (by decide), f5 55 (by decide), up_off (q := 55) (by decide), up_off (q := 55) (by decide), up_off (q := 55) (by decide), f4 55 (by decide), f3 55 (by decide), c2 _ hp, f1 5 (by decide), up_off (q := 5) (by decide), up_off (q := 5) (by decide), up_off (q := 5) (by decide)]
    · rw [up_off (q := 56) (by decide), up_off (q := 56) (by decide), f7 56 (by decide), up_off (q := 56) (by decide), up_off (q := 56) (by decide), up_off (q := 56) (by decide), f6 56 (by decide), f5 56 (by decide), up_off (q := 56) (by decide), up_off (q := 56) (by decide), up_off (q := 56) (by decide), f4 56 (by decide), c3 _ hp, f2 6 (by decide), f1 6 (by decide), up_off (q := 6) (by decide), up_off (q := 6) (by decide), up_off (q := 6) (by decide)]
    · rw [up_off (q := 57) (by decide), up_off (q := 57) (by decide), f7 57 (by decide), up_off (q := 57) (by decide), up_off (q := 57) (by decide), up_off (q := 57) (by decide), f6 57 (by decide), f5 57 (by decide), up_off (q := 57) (by decide), up_off (q := 57) (by decide), up_off (q := 57) (by decide), c4 _ hp, f3 7 (by decide), f2 7 (by decide), f1 7 (by decide), up_off (q := 7) (by decide), up_off (q := 7) (by decide), up_off (q := 7) (by decide)]
  · refine ⟨?_, ?_⟩
    · rw [up_off (q := 58) (by decide), up_off (q := 58) (by decide), f7 58 (by decide), up_off (q := 58) (by decide), up_off (q := 58) (by decide), up_off (q := 58) (by decide), f6 58 (by decide), c5 _ hc, up_off (q := 8) (by decide), up_off (q := 8) (by decide), up_off (q := 8) (by decide), f4 8 (by decide), f3 8 (by decide), f2 8 (by decide), f1 8 (by decide), up_off (q := 8) (by decide), up_off (q := 8) (by decide), up_off (q := 8) (by decide)]
    · rw [up_off (q := 59) (by decide), up_off (q := 59) (by decide), f7 59 (by decide), up_off (q := 59) (by decide), up_off (q := 59) (by decide), up_off (q := 59) (by decide), c6 _ hc, f5 9 (by decide), up_off (q := 9) (by decide), up_off (q := 9) (by decide), up_off (q := 9) (by decide), f4 9 (by decide), f3 9 (by decide), f2 9 (by decide), f1 9 (by decide), up_off (q := 9) (by decide), up_off (q := 9) (by decide), up_off (q := 9) (by decide)]
  · rw [up_off (q := 60) (by decide), up_off (q := 60) (by decide), c7 _ hi, up_off (q := 10) (by decide), up_off (q := 10) (by decide), up_off (q := 10) (by decide), f6 10 (by decide), f5 10 (by decide), up_off (q := 10) (by decide), up_off (q := 10) (by decide), up_off (q := 10) (by decide), f4 10 (by decide), f3 10 (by decide), f2 10 (by decide), f1 10 (by decide), up_off (q := 10) (by decide), up_off (q := 10) (by decide), up_off (q := 10) (by decide)]
theorem s_copyNotes_b {d : Nat} {dd : List (Nat × Nat)} {sh : Nat → Nat → Nat} {g : Nat → Nat → Int} {K : (Nat → Nat → Int) → Prop} (hK : ∀ g', (∀ q, q ≠ 62 → q ≠ 63 → q ≠ 64 → q ≠ 66 → q ≠ 67 → q ≠ 68 → q ≠ 69 → g' q = g q) → (∀ p, p < 6 → g' 62 p = g 12 p) → (∀ k, k < 9 → g' 63 k = g 13 k) → (∀ k, k < 4 → g' 64 k = g 14 k) → (∀ k, k < 8 → g' 66 k = g 16 k ∧ g' 67 k = g 17 k ∧ g' 68 k = g 18 k ∧ g' 69 k = g 19 k) → K g') : cV (d + 2) m_X3_copyFrom [vR 61, vR 11] dd sh g K := by
  refine mkV (ls := [some (vR 61), some (vR 11), none]) rfl rfl rfl rfl rfl (r_X3_copyFrom_b_0 ?_)
  refine s_copyR (by decide) (by decide) (by decide) (T_12 dd) (T_62 dd) (by decide) fun g1 f1 c1 => ?_
  refine s_copyR (by decide) (by decide) (by decide) (T_13 dd) (T_63 dd) (by decide) fun g2 f2 c2 => ?_
  refine s_copyR (by decide) (by decide) (by decide) (T_14 dd) (T_64 dd) (by decide) fun g3 f3 c3 => ?_
  refine r_X3_copyFrom_b_35 ⟨⟨by decide, by decide⟩, fun h => absurd h (by decide), fun _ => ⟨by decide, by decide, ?_⟩⟩
  rw [show rho sh 15 ((0 : Int)).toNat = 16 from rfl, show rho sh 65 ((0 : Int)).toNat = 66 from rfl]
  refine s_copyR (by decide) (by decide) (by decide) (T_16 dd) (T_66 dd) (by decide) fun g4 f4 c4 => ?_
  rw [show ((0 : Int) + 1) = 1 from rfl]
  refine r_X3_copyFrom_b_35 ⟨⟨by decide, by decide⟩, fun h => absurd h (by decide), fun _ => ⟨by decide, by decide, ?_⟩⟩
  rw [show rho sh 15 ((1 : Int)).toNat = 17 from rfl, show rho sh 65 ((1 : Int)).toNat = 67 from rfl]
  refine s_copyR (by decide) (by decide) (by decide) (T_17 dd) (T_67 dd) (by decide) fun g5 f5 c5 => ?_
  rw [show ((1 : Int) + 1) = 2 from rfl]
  refine r_X3_copyFrom_b_35 ⟨⟨by decide, by decide⟩, fun h => absurd h (by decide), fun _ => ⟨by decide, by decide, ?_⟩⟩
  rw [show rho sh 15 ((2 : Int)).toNat = 18 from rfl, show rho sh 65 ((2 : Int)).toNat = 68 from rfl]
  refine s_copyR (by decide) (by decide) (by decide) (T_18 dd) (T_68 dd) (by decide) fun g6 f6 c6 => ?_
  rw [show ((2 : Int) + 1) = 3 from rfl]
  refine r_X3_copyFrom_b_35 ⟨⟨by decide, by decide⟩, fun h => absurd h (by decide), fun _ => ⟨by decide, by decide, ?_⟩⟩
  rw [show rho sh 15 ((3 : Int)).toNat = 19 from rfl, show rho sh 65 ((3 : Int)).toNat = 69 from rfl]
  refine s_copyR (by decide) (by decide) (by decide) (T_19 dd) (T_69 dd) (by decide) fun g7 f7 c7 => ?_
  rw [show ((3 : Int) + 1) = 4 from rfl]
  refine r_X3_copyFrom_b_35 ⟨⟨by decide, by decide⟩, fun _ => ?_, fun h => absurd h (by decide)⟩
  refine hK _ (fun q h12 h13 h14 h16 h17 h18 h19 => by rw [f7 q h19, f6 q h18, f5 q h17, f4 q h16, f3 q h14, f2 q h13, f1 q h12]) (fun k hk => ?_) (fun k hk => ?_) (fun k hk => ?_) (fun k hk => ⟨?_, ?_, ?_, ?_⟩)
  · rw [f7 62 (by decide), f6 62 (by decide), f5 62 (by decide), f4 62 (by decide), f3 62 (by decide), f2 62 (by decide), c1 _ hk]
  · rw [f7 63 (by decide), f6 63 (by decide), f5 63 (by decide), f4 63 (by decide), f3 63 (by decide), c2 _ hk, f1 13 (by decide)]
  · rw [f7 64 (by decide), f6 64 (by decide), f5 64 (by decide), f4 64 (by decide), c3 _ hk, f2 14 (by decide), f1 14 (by decide)]
  · rw [f7 66 (by decide), f6 66 (by decide), f5 66 (by decide), c4 _ hk, f3 16 (by decide), f2 16 (by decide), f1 16 (by decide)]
  · rw [f7 67 (by decide), f6 67 (by decide), c5 _ hk, f4 17 (by decide), f3 17 (by decide), f2 17 (by decide), f1 17 (by decide)]
  · rw [f7 68 (by decide), c6 _ hk, f5 18 (by decide), f4 18 (by decide), f3 18 (by decide), f2 18 (by decide), f1 18 (by decide)]
  · rw [c7 _ hk, f6 19 (by decide), f5 19 (by decide), f4 19 (by decide), f3 19 (by decide), f2 19 (by decide), f1 19 (by decide)]
/-- how the house's copy leaves the numbers (b) -/
def HC_b (g g' : Nat → Nat → Int) : Prop := (∀ q, (q < 52 ∨ 101 ≤ q) → g' q = g q) ∧
  (((g' 53 0 = g 3 0 ∧ g' 53 1 = g 3 1 ∧ g' 53 2 = g 3 2 ∧ g' 53 7 = g 3 7 ∧ g' 53 8 = g 3 8 ∧ g' 53 9 = g 3 9) ∧ (g' 53 12 = g 3 12 ∧ g' 53 13 = g 3 13 ∧ g' 53 14 = g 3 14 ∧ g' 53 16 = g 3 16 ∧ g' 53 17 = g 3 17)) ∧ (∀ p, p < 6 → g' 54 p = g 4 p ∧ g' 55 p = g 5 p ∧ g' 56 p = g 6 p ∧ g' 57 p = g 7 p) ∧ (∀ c, c < 7 → g' 58 c = g 8 c ∧ g' 59 c = g 9 c) ∧ (∀ i, i < 40 → g' 60 i = g 10 i)) ∧
  ((∀ p, p < 6 → g' 62 p = g 12 p) ∧ (∀ k, k < 9 → g' 63 k = g 13 k) ∧ (∀ k, k < 4 → g' 64 k = g 14 k) ∧ (∀ k, k < 8 → g' 66 k = g 16 k ∧ g' 67 k = g 17 k ∧ g' 68 k = g 18 k ∧ g' 69 k = g 19 k)) ∧
  (∀ z, z < 30 → ∀ k, k < 62 → g' (71 + z) k = g (21 + z) k) ∧ (g' 52 3 = g 2 3 ∧ g' 52 4 = g 2 4 ∧ g' 52 6 = g 2 6 ∧ g' 52 7 = g 2 7)
theorem s_copyHouse_b {d : Nat} {dd : List (Nat × Nat)} {sh : Nat → Nat → Nat} {g : Nat → Nat → Int} {K : List (Nat × Nat) → (Nat → Nat → Nat) → (Nat → Nat → Int) → Prop} (hsh : ∀ t, t < 4 → sh 51 t = 0 ∨ (T0 ++ dyn dd)[sh 51 t]? = some (19, 7)) (hK : ∀ sh' g', (∀ q, q ≠ 101 → sh' q = sh q) → (∀ t, t < 4 → sh' 101 t = sh 51 t) → HC_b g g' → K dd sh' g') : cWV (d + 3) m_X1_copyFrom [vR 52, vR 2] dd sh g K := by
  refine mkWV (ls := [some (vR 52), some (vR 2), none]) rfl rfl rfl rfl rfl (r_X1_copyFrom_b_0 ?_)
  refine s_copyStage_b fun g1 f1 c1 c2 c3 c4 => ?_
  refine s_copyNotes_b fun g2 f2 e1 e2 e3 e4 => ?_
  have o2 : ∀ q, q < 53 ∨ 70 ≤ q → g2 q = g q := fun q hq => by rw [f2 q (by omega) (by omega) (by omega) (by omega) (by omega) (by omega) (by omega), f1 q (by omega) (by omega) (by omega) (by omega) (by omega) (by omega) (by omega) (by omega)]
  refine loop (P := fun k => ∀ g', (∀ q, (q < 71 ∨ 101 ≤ q) → g' q = g2 q) → (∀ z, z < k → ∀ i, i < 62 → g' (71 + z) i = g (21 + z) i) → rWV (d + 2) m_X1_copyFrom 0 0 24 [some (vR 52), some (vR 2), some (vI (k : Int))] [] dd sh g' K) (n := 30) ?_ ?_ 0 (by omega) g2 (fun q hq => rfl) (fun z hz => absurd hz (by omega))
  · intro g' h1 h2
    refine r_X1_copyFrom_b_24 ⟨⟨by decide, by decide⟩, fun _ => ?_, fun h => absurd h (by decide)⟩
    have hHC : HC_b g (up (up (up (up g' 52 3 (g' 2 3)) 52 4 (g' 2 4)) 52 6 (g' 2 6)) 52 7 (g' 2 7)) := by
      have u : ∀ q, q ≠ 52 → q < 71 ∨ 101 ≤ q → (up (up (up (up g' 52 3 (g' 2 3)) 52 4 (g' 2 4)) 52 6 (g' 2 6)) 52 7 (g' 2 7)) q = g2 q := fun q hq hq2 => by rw [up_off hq, up_off hq, up_off hq, up_off hq, h1 q hq2]
      refine ⟨fun q hq => ?_, ⟨?_, fun p hp => ?_, fun c hc => ?_, fun i hi => ?_⟩, ⟨fun p hp => ?_, fun k hk => ?_, fun k hk => ?_, fun k hk => ?_⟩, fun z hz k hk => ?_, ?_⟩
      · rw [u q (by omega) (by omega), o2 q (by omega)]
      · rw [u 53 (by decide) (by decide), f2 53 (by decide) (by decide) (by decide) (by decide) (by decide) (by decide) (by decide)]; exact c1
      · rw [u 54 (by decide) (by decide), u 55 (by decide) (by decide), u 56 (by decide) (by decide), u 57 (by decide) (by decide), f2 54 (by decide) (by decide) (by decide) (by decide) (by decide) (by decide) (by decide), f2 55 (by decide) (by decide) (by decide) (by decide) (by decide) (by decide) (by decide), f2 56 (by decide) (by decide) (by decide) (by decide) (by decide) (by decide) (by decide), f2 57 (by decide) (by decide) (by decide) (by decide) (by decide) (by decide) (by decide)]; exact c2 p hp
      · rw [u 58 (by decide) (by decide), u 59 (by decide) (by decide), f2 58 (by decide) (by decide) (by decide) (by decide) (by decide) (by decide) (by decide), f2 59 (by decide) (by decide) (by decide) (by decide) (by decide) (by decide) (by decide)]; exact c3 c hc
      · rw [u 60 (by decide) (by decide), f2 60 (by decide) (by decide) (by decide) (by decide) (by decide) (by decide) (by decide)]; exact c4 i hi
      · rw [u 62 (by decide) (by decide), e1 p hp, f1 12 (by decide) (by decide) (by decide) (by decide) (by decide) (by decide) (by decide) (by decide)]
      · rw [u 63 (by decide) (by decide), e2 k hk, f1 13 (by decide) (by decide) (by decide) (by decide) (by decide) (by decide) (by decide) (by decide)]
      · rw [u 64 (by decide) (by decide), e3 k hk, f1 14 (by decide) (by decide) (by decide) (by decide) (by decide) (by decide) (by decide) (by decide)]
      · obtain ⟨w1, w2, w3, w4⟩ := e4 k hk
        rw [u 66 (by decide) (by decide), u 67 (by decide) (by decide), u 68 (by decide) (by decide), u 69 (by decide) (by decide), w1, w2, w3, w4, f1 16 (by decide) (by decide) (by decide) (by decide) (by decide) (by decide) (by decide) (by decide), f1 17 (by decide) (by decide) (by decide) (by decide) (by decide) (by decide) (by decide) (by decide), f1 18 (by decide) (by decide) (by decide) (by decide) (by decide) (by decide) (by decide) (by decide), f1 19 (by decide) (by decide) (by decide) (by decide) (by decide) (by decide) (by decide) (by decide)]
        exact ⟨rfl, rfl, rfl, rfl⟩
      · rw [up_off (by omega), up_off (by omega), up_off (by omega), up_off (by omega)]; exact h2 z hz k hk
      · have es2 : g' 2 = g 2 := by rw [h1 2 (by decide), o2 2 (by decide)]
        simp [up, es2]
    refine loop (P := fun k => ∀ sh', (∀ q, q ≠ 101 → sh' q = sh q) → (∀ t, t < k → sh' 101 t = sh 51 t) → rWV (d + 2) m_X1_copyFrom 0 0 69 [some (vR 52), some (vR 2), some (vI (k : Int))] [] dd sh' (up (up g' 52 3 (g' 2 3)) 52 4 (g' 2 4)) K) (n := 4) ?_ ?_ 0 (by omega) sh (fun q hq => rfl) (fun t ht => absurd ht (by omega))
    · intro sh' k1 k2
      refine r_X1_copyFrom_b_69 ⟨⟨by decide, by decide⟩, fun _ => ?_, fun h => absurd h (by decide)⟩
      rw [up_off (q := 2) (by decide), up_off (q := 2) (by decide)]
      exact hK _ _ k1 k2 hHC
    · intro k hk ih sh' k1 k2
      refine r_X1_copyFrom_b_69 ?_
      rw [show ((k : Int)).toNat = k from rfl, k1 51 (by decide)]
      refine ⟨⟨by omega, by omega⟩, fun h => absurd h (by omega), fun _ => ⟨by omega, by omega, hsh k hk, ?_⟩⟩
      refine ih _ (fun q hq => ?_) (fun t ht => ?_)
      · funext j; unfold up; rw [if_neg hq, k1 q hq]
      · unfold up; rw [if_pos rfl]
        by_cases htk : t = k
        · subst htk; rw [if_pos rfl]
        · rw [if_neg htk, k2 t (by omega)]
  · intro k hk ih g' h1 h2
    refine r_X1_copyFrom_b_24 ⟨⟨by omega, by omega⟩, fun h => absurd h (by omega), fun _ => ⟨by omega, by omega, ?_⟩⟩
    rw [show ((k : Int)).toNat = k from rfl, rho20 sh k hk, rho70 sh k hk]
    refine s_copyR (by omega) (by omega) (by omega) (T_rows dd k hk) (T_rows7 dd k hk) (by decide) fun g3 f3 c3' => ?_
    refine ih g3 (fun q hq => by rw [f3 q (by omega), h1 q hq]) (fun z hz i hi => ?_)
    by_cases hzk : z = k
    · subst hzk
      rw [c3' i hi, h1 _ (by omega), o2 _ (by omega)]
    · rw [f3 _ (by omega)]; exact h2 z (by omega) i hi
theorem s_X12_copy2 {d : Nat} {dd : List (Nat × Nat)} {sh : Nat → Nat → Nat} {g : Nat → Nat → Int} {K : (Nat → Nat → Int) → Prop} {p q : Nat} (hp : p ≠ 0) (hq : q ≠ 0) (hpq : p ≠ q) (h1 : (T0 ++ dyn dd)[p]? = some (0, 2564)) (h2 : (T0 ++ dyn dd)[q]? = some (0, 2564)) (hK : ∀ g', (∀ r, r ≠ q → g' r = g r) → (∀ i, i < 2564 → g' q i = g p i) → K g') : cV (d + 1) m_X12_copy [vR p, vR q] dd sh g K := by
  refine s_X12_copy hp hq hpq h1 h2 (hK _ (fun r hr => ?_) (fun i hi => ?_))
  · funext i; unfold cpy; rw [if_neg (by intro h; exact hr h.1)]
  · unfold cpy; rw [if_pos ⟨rfl, hi⟩]
theorem T0_len : T0.length = 149 := by decide +kernel
theorem T_text : ∀ (dd : List (Nat × Nat)) (j : Nat), j < dd.length → (dyn dd)[7 * j]? = some (19, 7) := by
  intro dd
  induction dd with
  | nil => intro j hj; exact absurd hj (by simp)
  | cons a r ih =>
    obtain ⟨n, c⟩ := a
    intro j hj
    cases j with
    | zero => rfl
    | succ j =>
      have := ih j (by simpa using hj)
      show (dyn ((n, c) :: r))[7 * (j + 1)]? = _
      rw [show 7 * (j + 1) = 7 * j + 7 by omega]
      exact this
theorem T_text2 {dd : List (Nat × Nat)} {j : Nat} (hj : j < dd.length) : (T0 ++ dyn dd)[149 + 7 * j]? = some (19, 7) := by
  rw [List.getElem?_append_right (by rw [T0_len]; omega), T0_len, show 149 + 7 * j - 149 = 7 * j by omega]
  exact T_text dd j hj
theorem sim_image : S_image := by
  intro dd sh g hI
  have hA := hI.s.ab
  have hn := hA.night
  obtain ⟨x1, x2, x3, x4⟩ := hI.xs
  unfold SimW
  refine mkWI (ls := [some (vR 1)]) rfl rfl rfl rfl rfl (r_X11_image_0 ?_)
  refine s_copyHouse_b (fun t ht => ?_) fun sh' g1 k1 k2 hc => ?_
  · rcases x1 t ht with e | ⟨j, hj, e⟩
    · exact Or.inl e
    · rw [e]; exact Or.inr (T_text2 hj)
  · obtain ⟨o, cs, cn, cr, ch⟩ := hc
    have e3 : g1 3 = g 3 := o 3 (by decide)
    rw [e3, hI.s.night.1]
    refine mkI (ls := [some (vR 134)]) rfl rfl rfl rfl rfl (r_X12_image_0 ?_)
    refine s_X12_copy2 (by decide) (by decide) (by decide) (T_135 dd) (T_136 dd) fun g3 f1 f2 => ?_
    have e135 : g3 135 = g 135 := by rw [f1 135 (by decide), o 135 (by decide)]
    have e136 : ∀ k, k < 2564 → g3 136 k = g 135 k := fun k hk => by rw [f2 k hk, o 135 (by decide)]
    rw [e135]
    have u : ∀ q, q ≠ 136 → q < 52 ∨ 101 ≤ q → g3 q = g q := fun q h1 h2 => by rw [f1 q h1, o q h2]
    have v : ∀ q, q ≠ 136 → g3 q = g1 q := f1
    refine ⟨rfl, ⟨by omega, by omega⟩, ?_, ?_, ?_, ?_, ?_, ?_, ?_, ?_, ?_⟩
    · unfold RSc
      rw [u 3 (by decide) (by decide), u 4 (by decide) (by decide), u 5 (by decide) (by decide), u 6 (by decide) (by decide), u 7 (by decide) (by decide), u 8 (by decide) (by decide), u 9 (by decide) (by decide), u 10 (by decide) (by decide), e135]; exact hI.s
    · unfold RNc
      rw [u 12 (by decide) (by decide), u 13 (by decide) (by decide), u 14 (by decide) (by decide), u 16 (by decide) (by decide), u 17 (by decide) (by decide), u 18 (by decide) (by decide), u 19 (by decide) (by decide), e135]; exact hI.nn
    · unfold RHc
      rw [u 2 (by decide) (by decide), e135]
      exact RHrow hI.h fun k hk => u (21 + k) (by omega) (by omega)
    · rw [e135, u 137 (by decide) (by decide)]
      intro t ht hq
      rw [k1 51 (by decide)]
      exact (hI.xt.fr (b := g 135) rfl fun q hq => u q (by omega) (by omega)) t ht hq
    · unfold RSi
      rw [v 53 (by decide), v 54 (by decide), v 55 (by decide), v 56 (by decide), v 57 (by decide), v 58 (by decide), v 59 (by decide), v 60 (by decide)]
      exact RS.cp hI.s cs.1 cs.2.1 cs.2.2.1 cs.2.2.2 e136
    · unfold RNi
      rw [v 62 (by decide), v 63 (by decide), v 64 (by decide), v 66 (by decide), v 67 (by decide), v 68 (by decide), v 69 (by decide)]
      exact RN.cp hI.nn cn.1 cn.2.1 cn.2.2.1 cn.2.2.2 e136
    · unfold RHi
      rw [v 52 (by decide)]
      exact RH.cp hI.h ch (fun z hz k hk => by rw [v _ (by omega)]; exact cr z hz k hk) e136
    · refine ⟨fun t ht => ?_, fun t ht => ?_, ?_, fun t ht _ => ?_⟩
      · rw [k1 51 (by decide)]; exact x1 t ht
      · rw [k2 t ht]; exact x1 t ht
      · rw [e135, e136 2 (by decide)]; exact Int.le_refl _
      · rw [k2 t ht, k1 51 (by decide)]
    · unfold RXg
      rw [u 102 (by decide) (by decide), u 103 (by decide) (by decide), u 108 (by decide) (by decide), u 134 (by decide) (by decide), u 138 (by decide) (by decide)]; exact hI.x
theorem sim_back : S_back := by
  intro dd sh g hI
  have hA := hI.si.ab
  have hn := hA.night
  obtain ⟨x1, x2, x3, x4⟩ := hI.xs
  have ht2 := hI.hi.tx
  unfold SimW
  refine mkWI (ls := [some (vR 1)]) rfl rfl rfl rfl rfl (r_X11_back_0 ?_)
  refine s_copyHouse_a (fun t ht => ?_) fun sh' g1 k1 k2 hc => ?_
  · rcases x2 t ht with e | ⟨j, hj, e⟩
    · exact Or.inl e
    · rw [e]; exact Or.inr (T_text2 hj)
  · obtain ⟨o, cs, cn, cr, ch⟩ := hc
    have e3 : g1 3 12 = g 136 10 := by rw [cs.1.2.1]; exact hI.si.night.1
    rw [e3]
    refine mkI (ls := [some (vR 134)]) rfl rfl rfl rfl rfl (r_X12_back_0 ?_)
    refine s_X12_copy2 (by decide) (by decide) (by decide) (T_136 dd) (T_135 dd) fun g3 f1 f2 => ?_
    have e136 : g3 136 = g 136 := by rw [f1 136 (by decide), o 136 (by decide)]
    have e135 : ∀ k, k < 2564 → g3 135 k = g 136 k := fun k hk => by rw [f2 k hk, o 136 (by decide)]
    rw [e135 10 (by decide)]
    have u : ∀ q, q ≠ 135 → q < 2 ∨ 51 ≤ q → g3 q = g q := fun q h1 h2 => by rw [f1 q h1, o q h2]
    have v : ∀ q, q ≠ 135 → g3 q = g1 q := f1
    refine ⟨rfl, ⟨by omega, by omega⟩, ?_, ?_, ?_, ?_, ?_, ?_, ?_, ?_, ?_⟩
    · unfold RSc
      rw [v 3 (by decide), v 4 (by decide), v 5 (by decide), v 6 (by decide), v 7 (by decide), v 8 (by decide), v 9 (by decide), v 10 (by decide)]
      exact RS.cp hI.si cs.1 cs.2.1 cs.2.2.1 cs.2.2.2 e135
    · unfold RNc
      rw [v 12 (by decide), v 13 (by decide), v 14 (by decide), v 16 (by decide), v 17 (by decide), v 18 (by decide), v 19 (by decide)]
      exact RN.cp hI.ni cn.1 cn.2.1 cn.2.2.1 cn.2.2.2 e135
    · unfold RHc
      rw [v 2 (by decide)]
      exact RH.cp hI.hi ch (fun z hz k hk => by rw [v _ (by omega)]; exact cr z hz k hk) e135
    · rw [u 137 (by decide) (by decide)]
      intro t ht hq
      rw [e135 2 (by decide)] at hq
      rw [k2 t ht, x4 t ht hq]
      exact (hI.xt.fr (b := g 135) rfl fun q hq => u q (by omega) (by omega)) t ht (by omega)
    · unfold RSi
      rw [u 53 (by decide) (by decide), u 54 (by decide) (by decide), u 55 (by decide) (by decide), u 56 (by decide) (by decide), u 57 (by decide) (by decide), u 58 (by decide) (by decide), u 59 (by decide) (by decide), u 60 (by decide) (by decide), e136]; exact hI.si
    · unfold RNi
      rw [u 62 (by decide) (by decide), u 63 (by decide) (by decide), u 64 (by decide) (by decide), u 66 (by decide) (by decide), u 67 (by decide) (by decide), u 68 (by decide) (by decide), u 69 (by decide) (by decide), e136]; exact hI.ni
    · unfold RHi
      rw [u 52 (by decide) (by decide), e136]
      exact RHrow hI.hi fun k hk => u (71 + k) (by omega) (by omega)
    · refine ⟨fun t ht => ?_, fun t ht => ?_, ?_, fun t ht hq => ?_⟩
      · rw [k2 t ht]; exact x2 t ht
      · rw [k1 101 (by decide)]; exact x2 t ht
      · rw [e136, e135 2 (by decide)]; exact Int.le_refl _
      · rw [k2 t ht, k1 101 (by decide)]
    · unfold RXg
      rw [u 102 (by decide) (by decide), u 103 (by decide) (by decide), u 108 (by decide) (by decide), u 134 (by decide) (by decide), u 138 (by decide) (by decide)]; exact hI.x
