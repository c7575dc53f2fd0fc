-- the class makes a text
theorem s_copyRm {d : Nat} {dd : List (Nat × Nat)} {sh : Nat → Nat → Nat} {g : Nat → Nat → Int} {K : (Nat → Nat → Int) → Prop} {p0 p1 n m : Nat} (hp : p0 ≠ 0) (hq : p1 ≠ 0) (hpq : p0 ≠ p1) (h1 : (T0 ++ dyn dd)[p0]? = some (0, n)) (h2 : (T0 ++ dyn dd)[p1]? = some (0, m)) (hn : n ≤ 100000) (hmn : m ≤ n) (hK : ∀ g', (∀ q, q ≠ p1 → g' q = g q) → (∀ i, i < m → g' p1 i = g p0 i) → K g') : cV (d + 1) m_X11_copyRow [vR p0, vR p1] dd sh g K := by
  refine s_X11_copyRow hp hq hpq h1 h2 hn (by omega) (hK _ (fun q hq => ?_) (fun i hi => ?_))
  · funext i; unfold cpy; rw [if_neg (by intro h; exact hq h.1)]
  · unfold cpy; rw [if_pos ⟨rfl, by omega⟩]
theorem newT_lo {g : Nat → Nat → Int} {L q : Nat} {w : Int} (h : q < L) : newT g L w q = g q := by
  funext j
  have a0 : q ≠ L := by omega
  have a1 : q ≠ L + 1 := by omega
  have a2 : q ≠ L + 2 := by omega
  have a3 : q ≠ L + 3 := by omega
  have a4 : q ≠ L + 4 := by omega
  have a5 : q ≠ L + 5 := by omega
  have a6 : q ≠ L + 6 := by omega
  simp only [newT, rowOf, up, if_neg a0, if_neg a1, if_neg a2, if_neg a3, if_neg a4, if_neg a5, if_neg a6]
theorem newT_3 {g : Nat → Nat → Int} {L : Nat} {w : Int} : newT g L w L 3 = w := by
  have a4 : L ≠ L + 4 := by omega
  have a5 : L ≠ L + 5 := by omega
  have a6 : L ≠ L + 6 := by omega
  simp only [newT, rowOf, up, if_neg a4, if_neg a5, if_neg a6, if_true]
theorem c_makeText {d : Nat} {dd : List (Nat × Nat)} {sh : Nat → Nat → Nat} {g : Nat → Nat → Int} {K : Nat → List (Nat × Nat) → (Nat → Nat → Nat) → (Nat → Nat → Int) → Prop} {cs N : Nat} (h10 : g 108 10 = (cs : Int)) (h6 : g 108 6 = (N : Int)) (hcs : cs ≤ 300) (hN : N ≤ 24)
    (hK : ∀ g' : Nat → Nat → Int, (∀ q, q < nxt dd → g' q = g q) → g' (nxt dd) 3 = (N : Int) → (∀ w, w < 3 → g' (nxt dd + 1) w = g 113 w) → (∀ w, w < 3 → g' (nxt dd + 2) w = g 114 w) → (∀ i, i < cs → g' (nxt dd + 3) i = g 112 i) → (∀ i, i < N → g' (nxt dd + 4) i = g 109 i) → (∀ i, i < N → g' (nxt dd + 5) i = g 110 i) → (∀ i, i < N → g' (nxt dd + 6) i = g 111 i) → K (nxt dd) (dd ++ [(cs, N)]) sh g') : cWR (d + 3) m_X6_makeText [vR 108] dd sh g K := by
  refine mkWR (ls := [some (vR 108), none]) rfl rfl rfl rfl rfl (r_X6_makeText_0 (by omega) (by omega) (by omega) (by omega) ?_)
  rw [h10, h6, show ((cs : Nat) : Int).toNat = cs from rfl, show ((N : Nat) : Int).toNat = N from rfl]
  have hL : nxt dd = 149 + 7 * dd.length := rfl
  have hj : (dd ++ [(cs, N)])[dd.length]? = some (cs, N) := by simp
  obtain ⟨t0, t1, t2, t3, t4, t5, t6⟩ := T_at7 hj
  obtain ⟨r0, r1, r2, r4, r5, r6⟩ := rho_t sh dd.length
  rw [← hL] at t0 t1 t2 t3 t4 t5 t6 r0 r1 r2 r4 r5 r6
  refine r_X6_makeText_15 ⟨by omega, t0, ?_⟩
  rw [r0, r1, r2, r4, r5, r6]
  generalize hg0 : newT g (nxt dd) (N : Int) = g0
  have o0 : ∀ q, q < nxt dd → g0 q = g q := fun q hq => by rw [← hg0]; exact newT_lo hq
  have v0 : g0 (nxt dd) 3 = (N : Int) := by rw [← hg0]; exact newT_3
  refine s_copyRm (by decide) (by omega) (by omega) (T_112 _) t3 (by decide) hcs fun g1 f1 c1 => ?_
  refine s_copyRm (by decide) (by omega) (by omega) (T_113 _) t1 (by decide) (by decide) fun g2 f2 c2 => ?_
  refine s_copyRm (by decide) (by omega) (by omega) (T_114 _) t2 (by decide) (by decide) fun g3 f3 c3 => ?_
  refine s_copyRm (by decide) (by omega) (by omega) (T_109 _) t4 (by decide) hN fun g4 f4 c4 => ?_
  refine s_copyRm (by decide) (by omega) (by omega) (T_110 _) t5 (by decide) hN fun g5 f5 c5 => ?_
  refine s_copyRm (by decide) (by omega) (by omega) (T_111 _) t6 (by decide) hN fun g6 f6 c6 => ?_
  refine hK g6 (fun q hq => ?_) ?_ (fun w hw => ?_) (fun w hw => ?_) (fun i hi => ?_) (fun i hi => ?_) (fun i hi => ?_) (fun i hi => ?_)
  · rw [f6 q (by omega), f5 q (by omega), f4 q (by omega), f3 q (by omega), f2 q (by omega), f1 q (by omega), o0 q hq]
  · rw [f6 _ (by omega), f5 _ (by omega), f4 _ (by omega), f3 _ (by omega), f2 _ (by omega), f1 _ (by omega)]; exact v0
  · rw [f6 _ (by omega), f5 _ (by omega), f4 _ (by omega), f3 _ (by omega), c2 w hw, f1 113 (by omega), o0 113 (by omega)]
  · rw [f6 _ (by omega), f5 _ (by omega), f4 _ (by omega), c3 w hw, f2 114 (by omega), f1 114 (by omega), o0 114 (by omega)]
  · rw [f6 _ (by omega), f5 _ (by omega), f4 _ (by omega), f3 _ (by omega), f2 _ (by omega), c1 i hi, o0 112 (by omega)]
  · rw [f6 _ (by omega), f5 _ (by omega), c4 i hi, f3 109 (by omega), f2 109 (by omega), f1 109 (by omega), o0 109 (by omega)]
  · rw [f6 _ (by omega), c5 i hi, f4 110 (by omega), f3 110 (by omega), f2 110 (by omega), f1 110 (by omega), o0 110 (by omega)]
  · rw [c6 i hi, f5 111 (by omega), f4 111 (by omega), f3 111 (by omega), f2 111 (by omega), f1 111 (by omega), o0 111 (by omega)]
theorem TF.nb {g g' : Nat → Nat → Int} (h : TF g g') : ∀ q, (q < 102 ∨ q = 103 ∨ 114 < q) → g' q = g q := h.1
/-- the class's end of a good reading -/
def GdE (dd : List (Nat × Nat)) (g g' gc : Nat → Nat → Int) (cs N : Nat) : Prop :=
  (∀ q, q < nxt dd → (q < 102 ∨ q = 103 ∨ 114 < q) → g' q = g q) ∧ g' (nxt dd) 3 = (N : Int) ∧ (∀ w, w < 3 → g' (nxt dd + 1) w = gc 113 w) ∧ (∀ w, w < 3 → g' (nxt dd + 2) w = gc 114 w) ∧ (∀ i, i < cs → g' (nxt dd + 3) i = gc 112 i) ∧ (∀ i, i < N → g' (nxt dd + 4) i = gc 109 i) ∧ (∀ i, i < N → g' (nxt dd + 5) i = gc 110 i) ∧ ∀ i, i < N → g' (nxt dd + 6) i = gc 111 i
theorem c_readTape {d : Nat} {dd : List (Nat × Nat)} {sh : Nat → Nat → Nat} {g : Nat → Nat → Int} {K : Nat → List (Nat × Nat) → (Nat → Nat → Nat) → (Nat → Nat → Int) → Prop} {B : Nat → Int} {n : Nat} (hB : ∀ j, j < 300 → B j = g 103 j) (hn : g 102 1 = (n : Int)) (hn3 : n ≤ 300) (hb : ∀ j, j < 300 → 0 ≤ g 103 j ∧ g 103 j ≤ 255)
    (hbad : ∀ k st ln, LX B k n st ln → k ≤ n → ∀ N ts css kk vv ww CC f p, Seq (kdF B k st ln) (vlF B k st ln) N ts css kk vv ww CC → kdF B k st ln (ts N) ≠ 0 → ClauseR (kdF B k st ln) (vlF B k st ln) N (owF kk N) (ts N) (.inl (f, p)) → (1 ≤ f ∧ f ≤ 7) → ∀ g', TF g g' → g' 108 1 = f → g' 108 2 = ((stK n k st p : Nat) : Int) → K 0 dd sh g')
    (hok : ∀ k st ln, LX B k n st ln → k ≤ n → ∀ N ts css kk vv ww CC, Seq (kdF B k st ln) (vlF B k st ln) N ts css kk vv ww CC → kdF B k st ln (ts N) = 0 → ∀ gc g', RwC gc N css kk vv ww CC → GdE dd g g' gc (css N) N → g' 108 1 = 0 → g' 108 2 = -1 → K (nxt dd) (dd ++ [(css N, N)]) sh g') : cWR (d + 23) m_X6_readTape [vR 108] dd sh g K := by
  refine mkWR (ls := [some (vR 108), none]) rfl rfl rfl rfl rfl (r_X6_readTape_0 ?_)
  refine c_startAnew (d := d + 12) hB hn hn3 hb fun g0 k st ln f0 hkn hL hTS hGd h6 h34 => ?_
  have hk : ∀ t, kdF B k st ln t ≠ 0 → t < k := fun t => kdF_lt
  have key : ∀ m N ts css kk vv ww CC, N + m = 25 → Seq (kdF B k st ln) (vlF B k st ln) N ts css kk vv ww CC → ∀ g1 : Nat → Nat → Int, TF g g1 → TS k (kdF B k st ln) (vlF B k st ln) (fun t => ((stK n k st t : Nat) : Int)) false false g1 → Gd k (kdF B k st ln) g1 (ts N) (css N) false → g1 108 6 = (N : Int) → RwC g1 N css kk vv ww CC → rWR (d + 22) m_X6_readTape 7 385 6 [some (vR 108), some (vI (N : Int))] [] dd sh g1 K := by
    intro m
    induction m with
    | zero =>
      intro N ts css kk vv ww CC hm hS
      have := (seq_b hk hS N (Nat.le_refl _)).2.2
      omega
    | succ m ih =>
      intro N ts css kk vv ww CC hm hS g1 f1 hT hG e6 hR
      obtain ⟨s1, s2, s3⟩ := seq_b hk hS N (Nat.le_refl _)
      obtain ⟨q5, q3, qk, q4, q10, q15⟩ := id hG
      refine r_X6_readTape_6 ?_
      rw [q5, q4]
      refine ⟨⟨by omega, by omega⟩, fun h => absurd h (by omega), fun _ => ⟨⟨by decide, by decide⟩, fun h => absurd rfl h, fun _ => ⟨?_, fun hz => ⟨fun _ => ?_, fun h => absurd rfl h⟩, fun hz => ?_⟩⟩⟩
      · have := kdF_b B k st ln (ts N)
        exact ⟨by omega, by omega⟩
      · have o : ∀ q, q ≠ 108 → up (up g1 108 1 0) 108 2 (-1) q = g1 q := fun q hq => by rw [up_off hq, up_off hq]
        have v : ∀ j, j ≠ 1 → j ≠ 2 → up (up g1 108 1 0) 108 2 (-1) 108 j = g1 108 j := fun j h1 h2 => by rw [up_at, if_neg h2, up_at, if_neg h1]
        refine c_makeText (d := d + 19) (cs := css N) (N := N) (by rw [v 10 (by decide) (by decide)]; exact q10) (by rw [v 6 (by decide) (by decide)]; exact e6) (by omega) s3 fun g' a1 a2 a3 a4 a5 a6 a7 a8 => ?_
        have hx : nxt dd = 149 + 7 * dd.length := rfl
        rw [o 113 (by decide)] at a3
        rw [o 114 (by decide)] at a4
        rw [o 112 (by decide)] at a5
        rw [o 109 (by decide)] at a6
        rw [o 110 (by decide)] at a7
        rw [o 111 (by decide)] at a8
        refine hok k st ln hL hkn N ts css kk vv ww CC hS hz g1 g' hR ⟨fun q c1 c2 => ?_, a2, a3, a4, a5, a6, a7, a8⟩ ?_ ?_
        · rw [a1 q c1, o q (by omega), f1.1 q c2]
        · rw [a1 108 (by omega)]; rfl
        · rw [a1 108 (by omega)]; rfl
      · refine c_readClause (d := d) (e := d + 1) (c := N) (ow := owF kk N) hT hG s2 e6 s3 (fun w hw => ?_) (fun f p hr g' fb hBd => ?_) (fun t' k' v w C hr g' hA hG' => ?_)
        · by_cases ho : owF kk N w
          · obtain ⟨i, i1, i2⟩ := id ho
            obtain ⟨z1, z2, z3⟩ := seq_b hk hS i (by omega)
            obtain ⟨c1, c2⟩ := hS.2.2 i i1
            have b1 := ((clause_ok hk z1 c1).2.2.2.2.2.1 (by omega)).2.1
            have b5 := ((hR.1 i i1).2.2.2.2 (by omega)).2
            have hmo := seq_mono hS (show i + 1 ≤ N by omega) (Nat.le_refl _)
            rw [i2] at b5
            rw [b5]
            exact ⟨⟨by omega, by have := hT.2.1; omega⟩, fun _ => ho, fun _ => by omega⟩
          · have := hR.2 w hw ho
            rw [this.2]
            exact ⟨⟨by decide, by decide⟩, fun h => absurd h (by decide), fun h => absurd h ho⟩
        · obtain ⟨y5, y7, y2, ⟨u, u1, u3, u4⟩, y10, y15⟩ := hBd
          have f1' : TF g g' := f1.tr fb.tf
          have fin : K 0 dd sh (up g' 108 1 f) := by
            refine hbad k st ln hL hkn N ts css kk vv ww CC f p hS hz hr y7 _ ⟨fun q hq => ?_, fun j hj => ?_⟩ ?_ ?_
            · rw [up_off (by omega)]; exact f1'.1 q hq
            · rw [up_off (by decide)]; exact f1'.2 j hj
            · rw [up_at, if_pos rfl]
            · rw [up_at, if_neg (by decide)]; exact y2
          refine r_X6_readTape_6 ?_
          rw [y5]
          refine ⟨⟨by omega, by omega⟩, fun _ => ⟨⟨by omega, by omega⟩, fun h => absurd h (by omega), fun _ => fin⟩, fun _ => ⟨⟨by omega, by omega⟩, fun _ => ⟨fun h => absurd h (by omega), fun _ => fin⟩, fun h => absurd h (by omega)⟩⟩
        · have hnb : NB2 g1 g' := hA.2.1
          have := ih (N + 1) _ _ _ _ _ _ (by omega) (hS.more hr) g' (f1.tr hnb.tf) (hT.off fun q hq => hnb q (Or.inl hq)) (by rw [ex1_at, ex1_at]; exact hG') (by rw [hA.1]; rfl) (RwC.more hk hS hr hR hA)
          exact this
  refine key 25 0 (fun _ => 0) (fun _ => 0) (fun _ => 0) (fun _ => 0) (fun _ => 0) (fun _ => []) rfl ⟨rfl, rfl, fun i hi => absurd hi (by omega)⟩ g0 f0 hTS hGd h6 ⟨fun i hi => absurd hi (by omega), fun w hw _ => h34 w hw⟩
