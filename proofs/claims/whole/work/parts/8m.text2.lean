-- the class reads the tape
theorem kdF_b (B : Nat → Int) (k : Nat) (st ln : Nat → Nat) (t : Nat) : 0 ≤ kdF B k st ln t ∧ kdF B k st ln t ≤ 32 := by
  unfold kdF
  split
  · have := tkd_b B (st t) (ln t); omega
  · exact ⟨by decide, by decide⟩
theorem kdF_2 {B : Nat → Int} {k n : Nat} {st ln : Nat → Nat} (hL : LX B k n st ln) {t : Nat} (h : kdF B k st ln t = 2) : t < k ∧ cb (B (st t)) = 1 ∧ 0 ≤ vlF B k st ln t ∧ vlF B k st ln t ≤ 10000 := by
  have ht : t < k := kdF_lt (show kdF B k st ln t ≠ 0 by rw [h]; decide)
  have e : kdF B k st ln t = tkd B (st t) (ln t) := if_pos ht
  rw [e] at h
  have hc : cb (B (st t)) = 1 := by
    unfold tkd at h
    by_cases c1 : cb (B (st t)) = 1
    · exact c1
    · rw [if_neg c1] at h
      by_cases c2 : cb (B (st t)) = 2
      · rw [if_pos c2] at h
        have := wk_no (L := wd B (st t) (ln t)); omega
      · rw [if_neg c2] at h
        exact absurd h (mk_iff (b := B (st t))).2.2.2.2.2.2.2.2
  refine ⟨ht, hc, nvF_b _ fun j hj => ?_⟩
  have := (hL.1 t ht).2.2.2.2.1 (st t + j) (by omega) (by omega)
  rw [hc] at this
  exact cb1.mp this
theorem TS.of {B : Nat → Int} {n k : Nat} {st ln : Nat → Nat} {pays : Bool} {g : Nat → Nat → Int} (h6 : g 102 6 = ((k + 1 : Nat) : Int)) (hk : k ≤ 300) (hT : TK B n k st ln (g 104) (g 105) (g 107)) : TS k (kdF B k st ln) (vlF B k st ln) (fun t => ((stK n k st t : Nat) : Int)) pays false g := by
  obtain ⟨hL, h1, h2, h3⟩ := hT
  refine ⟨h6, hk, fun t ht => ?_, fun t ht h => ?_, fun t => kdF_b B k st ln t, fun t => kdF_lt, fun t h => (kdF_2 hL h).2.2, fun h => absurd h (by decide), fun h => absurd h (by decide)⟩
  · by_cases e : t < k
    · have := h1 t e
      refine ⟨?_, ?_⟩
      · rw [this.1]; exact (if_pos e).symm
      · rw [this.2.1]; show _ = ((stK n k st t : Nat) : Int); unfold stK; rw [if_pos e]
    · obtain rfl : t = k := by omega
      refine ⟨?_, ?_⟩
      · rw [h2]; exact (if_neg e).symm
      · rw [h3]; show _ = ((stK n t st t : Nat) : Int); unfold stK; rw [if_neg e]
  · obtain ⟨a, b, _⟩ := kdF_2 hL h
    exact (h1 t a).2.2 b
theorem LX.congr {B B' : Nat → Int} {k n : Nat} {st ln : Nat → Nat} (hB : ∀ j, j < n → B' j = B j) (h : LX B k n st ln) : LX B' k n st ln := by
  obtain ⟨h1, h2, h3, h4, h5, h6⟩ := h
  refine ⟨fun t ht => ?_, fun hz j hj => by rw [hB j hj]; exact h2 hz j hj, fun hk j hj => ?_, fun t ht => ⟨(h4 t ht).1, fun j a b => ?_⟩, fun hk j a b => by rw [hB j b]; exact h5 hk j a b, h6⟩
  · obtain ⟨a1, a2, a3, a4, a5, a6, a7⟩ := h1 t ht
    rw [hB _ a1]
    refine ⟨a1, a2, a3, a4, fun j x y => ?_, a6, fun x y => ?_⟩
    · rw [hB j (by omega)]; exact a5 j x y
    · rw [hB _ y]; exact a7 x y
  · have := (h1 0 hk).1
    rw [hB j (by omega)]; exact h3 hk j hj
  · have := (h1 (t + 1) ht).1
    rw [hB j (by omega)]; exact (h4 t ht).2 j a b
theorem nvF_cg {B B' : Nat → Int} {s : Nat} : ∀ l, (∀ j, j < l → B' (s + j) = B (s + j)) → nvF B' s l = nvF B s l := by
  intro l
  induction l with
  | zero => intro _; rfl
  | succ l ih =>
    intro h
    unfold nvF
    rw [ih fun j hj => h j (by omega), h l (by omega)]
theorem TK.congr {B B' : Nat → Int} {k n : Nat} {st ln : Nat → Nat} {kd tt vv : Nat → Int} (hB : ∀ j, j < n → B' j = B j) (h : TK B n k st ln kd tt vv) : TK B' n k st ln kd tt vv := by
  obtain ⟨h1, h2, h3, h4⟩ := h
  refine ⟨h1.congr hB, fun t ht => ?_, h3, h4⟩
  obtain ⟨a1, a2, a3, a4, a5, a6, a7⟩ := h1.1 t ht
  obtain ⟨b1, b2, b3⟩ := h2 t ht
  have e : wd B' (st t) (ln t) = wd B (st t) (ln t) := by
    unfold wd
    refine List.map_congr_left fun j hj => ?_
    rw [List.mem_range] at hj
    exact hB _ (by omega)
  refine ⟨?_, b2, fun hc => ?_⟩
  · rw [b1]; unfold tkd; rw [e, hB _ a1]
  · rw [hB _ a1] at hc
    rw [b3 hc, nvF_cg (ln t) fun j hj => hB _ (by omega)]
/-- what the reader leaves alone -/
def TF (g g' : Nat → Nat → Int) : Prop := (∀ q, (q < 102 ∨ q = 103 ∨ 114 < q) → g' q = g q) ∧ ∀ j, j ≠ 6 → g' 102 j = g 102 j
theorem TF.tr {g g' g'' : Nat → Nat → Int} (h : TF g g') (h' : TF g' g'') : TF g g'' := ⟨fun q a => by rw [h'.1 q a, h.1 q a], fun j a => by rw [h'.2 j a, h.2 j a]⟩
theorem NB2.tf {g g' : Nat → Nat → Int} (h : NB2 g g') : TF g g' := ⟨fun q a => h q (by omega), fun j _ => by rw [h 102 (by decide)]⟩
theorem c_startAnew {d : Nat} {dd : List (Nat × Nat)} {sh : Nat → Nat → Nat} {g : Nat → Nat → Int} {K : (Nat → Nat → Int) → Prop} {B : Nat → Int} {n : Nat} (hB : ∀ j, j < 300 → B j = g 103 j) (hn : g 102 1 = (n : Int)) (hn3 : n ≤ 300) (hb : ∀ j, j < 300 → 0 ≤ g 103 j ∧ g 103 j ≤ 255) (hK : ∀ (g' : Nat → Nat → Int) (k : Nat) (st ln : Nat → Nat), TF g g' → k ≤ n → LX B k n st ln → TS k (kdF B k st ln) (vlF B k st ln) (fun t => ((stK n k st t : Nat) : Int)) false false g' → Gd k (kdF B k st ln) g' 0 0 false → g' 108 6 = 0 → (∀ w, w < 3 → g' 113 w = 0 ∧ g' 114 w = 0) → K g') : cV (d + 10) m_X6_startAnew [(vR 108)] dd sh g K := by
  refine mkV (ls := [some (vR 108), none]) rfl rfl rfl rfl rfl (r_X6_startAnew_0 ?_)
  generalize hg1 : (up (up (up (up g 108 5 0) 108 6 0) 108 10 0) 108 15 0) = g1
  have o1 : ∀ q, q ≠ 108 → g1 q = g q := fun q hq => by rw [← hg1, up_off hq, up_off hq, up_off hq, up_off hq]
  have v5 : g1 108 5 = 0 := by rw [← hg1]; rfl
  have v6 : g1 108 6 = 0 := by rw [← hg1]; rfl
  have v10 : g1 108 10 = 0 := by rw [← hg1]; rfl
  have v15 : g1 108 15 = 0 := by rw [← hg1]; rfl
  refine loop (P := fun w => ∀ g2 : Nat → Nat → Int, (∀ q, q ≠ 113 → q ≠ 114 → g2 q = g1 q) → (∀ i, i < w → g2 113 i = 0 ∧ g2 114 i = 0) → rV (d + 9) m_X6_startAnew 22 [some (vR 108), some (vI ((w : Int)))] [] dd sh g2 K) (n := 3) ?_ ?_ 0 (by omega) g1 (fun _ _ _ => rfl) (fun i hi => absurd hi (by omega))
  · intro g2 e1 e2
    refine r_X6_startAnew_22 ⟨⟨by decide, by decide⟩, fun _ => ?_, fun h => absurd h (by decide)⟩
    have e102 : g2 102 = g 102 := by rw [e1 102 (by decide) (by decide), o1 102 (by decide)]
    have e103 : g2 103 = g 103 := by rw [e1 103 (by decide) (by decide), o1 103 (by decide)]
    have e108 : g2 108 = g1 108 := e1 108 (by decide) (by decide)
    refine s_X8_split (d := d + 1) (n := n) (by rw [e102]; exact hn) hn3 (by rw [e103]; exact hb) fun g3 k st ln f1 f2 f3 hkn hTK => ?_
    rw [e103] at hTK
    have hTK := hTK.congr (B' := B) fun j hj => hB j (by omega)
    have hTS := TS.of (pays := false) (g := g3) (B := B) (n := n) f3 (by omega) hTK
    have e108' : g3 108 = g1 108 := by rw [f1 108 (by decide) (by decide) (by decide) (by decide) (by decide), e108]
    refine mkV (ls := [some (vR 108)]) rfl rfl rfl rfl rfl (r_X6_goOn_0 ?_)
    have w3 : up g3 108 3 (-1) 108 3 = -1 := rfl
    have w102 : up g3 108 3 (-1) 102 = g3 102 := up_off (by decide)
    have w104 : up g3 108 3 (-1) 104 = g3 104 := up_off (by decide)
    rw [w3, w102, w104, f3, show ((-1 : Int) + 1).toNat = 0 from rfl, (hTS.2.2.1 0 (Nat.zero_le _)).1]
    refine ⟨⟨by decide, by decide⟩, ⟨by omega, by omega⟩, fun h => absurd h (by omega), fun _ => ⟨by decide, by decide, ?_⟩⟩
    generalize hg4 : (up (up (up g3 108 3 (-1)) 108 3 (-1 + 1)) 108 4 (kdF B k st ln 0)) = g4
    have o4 : ∀ q, q ≠ 108 → g4 q = g3 q := fun q hq => by rw [← hg4, up_off hq, up_off hq, up_off hq]
    have o48 : ∀ j, j ≠ 3 → j ≠ 4 → g4 108 j = g3 108 j := fun j h3 h4 => by rw [← hg4, up_at, if_neg h4, up_at, if_neg h3, up_at, if_neg h3]
    refine hK g4 k st ln ⟨fun q hq => ?_, fun j hj => ?_⟩ hkn hTK.1 ?_ ⟨?_, ?_, Nat.zero_le _, ?_, ?_, ?_⟩ ?_ fun w hw => ?_
    · rw [o4 q (by omega), f1 q (by omega) (by omega) (by omega) (by omega) (by omega), e1 q (by omega) (by omega), o1 q (by omega)]
    · rw [o4 102 (by decide), f2 j hj, e102]
    · exact TS.of (pays := false) (g := g4) (B := B) (n := n) (by rw [o4 102 (by decide)]; exact f3) (by omega) (by rw [o4 104 (by decide), o4 105 (by decide), o4 107 (by decide)]; exact hTK)
    · rw [o48 5 (by decide) (by decide), e108']; exact v5
    · rw [← hg4]; rfl
    · rw [← hg4]; rfl
    · rw [o48 10 (by decide) (by decide), e108']; exact v10
    · rw [o48 15 (by decide) (by decide), e108']; exact v15
    · rw [o48 6 (by decide) (by decide), e108']; exact v6
    · have := e2 w hw
      rw [o4 113 (by decide), o4 114 (by decide), f1 113 (by decide) (by decide) (by decide) (by decide) (by decide), f1 114 (by decide) (by decide) (by decide) (by decide) (by decide)]
      exact this
  · intro w hw ih g2 e1 e2
    refine r_X6_startAnew_22 ⟨⟨by omega, by omega⟩, fun h => absurd h (by omega), fun _ => ⟨by omega, by omega, ?_⟩⟩
    rw [show ((w : Nat) : Int).toNat = w from rfl]
    refine ih _ (fun q q1 q2 => by rw [up_off q2, up_off q1]; exact e1 q q1 q2) fun i hi => ?_
    rw [up_off (q := 113) (by decide), up_at, up_at]
    by_cases e : i = w
    · rw [if_pos e, if_pos e]; exact ⟨rfl, rfl⟩
    · rw [if_neg e, if_neg e, up_off (q := 114) (by decide)]; exact e2 i (by omega)
def ex1 {α : Type} (f : Nat → α) (n : Nat) (x : α) : Nat → α := fun i => if i = n then x else f i
theorem ex1_at {α : Type} {f : Nat → α} {n : Nat} {x : α} : ex1 f n x n = x := if_pos rfl
theorem ex1_ne {α : Type} {f : Nat → α} {n i : Nat} {x : α} (h : i ≠ n) : ex1 f n x i = f i := if_neg h
theorem owF_lo {kk : Nat → Nat} {N i k' : Nat} (h : i ≤ N) : owF (ex1 kk N k') i = owF kk i := by
  funext w
  refine propext ⟨fun ⟨j, j1, j2⟩ => ⟨j, j1, ?_⟩, fun ⟨j, j1, j2⟩ => ⟨j, j1, ?_⟩⟩
  · rw [ex1_ne (by omega)] at j2; exact j2
  · rw [ex1_ne (by omega)]; exact j2
theorem owF_up {kk : Nat → Nat} {N k' w : Nat} : owF (ex1 kk N k') (N + 1) w ↔ (owF kk N w ∨ w = k') := by
  refine ⟨fun ⟨j, j1, j2⟩ => ?_, fun h => ?_⟩
  · by_cases e : j = N
    · subst e; rw [ex1_at] at j2; exact Or.inr j2.symm
    · rw [ex1_ne e] at j2; exact Or.inl ⟨j, by omega, j2⟩
  · rcases h with ⟨j, j1, j2⟩ | h
    · exact ⟨j, by omega, by rw [ex1_ne (by omega)]; exact j2⟩
    · exact ⟨N, by omega, by rw [ex1_at]; exact h.symm⟩
section SX
variable {kd vl : Nat → Int} {N : Nat} {ts css kk : Nat → Nat} {vv ww : Nat → Int} {CC : Nat → List (Int × Int)} {t' k' : Nat} {v w : Int} {C : List (Int × Int)}
theorem Seq.more (h : Seq kd vl N ts css kk vv ww CC) (hc : ClauseR kd vl N (owF kk N) (ts N) (.inr (t', k', v, w, C))) : Seq kd vl (N + 1) (ex1 ts (N + 1) t') (ex1 css (N + 1) (css N + C.length)) (ex1 kk N k') (ex1 vv N v) (ex1 ww N w) (ex1 CC N C) := by
  obtain ⟨h1, h2, h3⟩ := h
  refine ⟨by rw [ex1_ne (by omega)]; exact h1, by rw [ex1_ne (by omega)]; exact h2, fun i hi => ?_⟩
  by_cases e : i = N
  · subst e
    rw [owF_lo (Nat.le_refl _), ex1_ne (f := ts) (by omega), ex1_ne (f := css) (i := i) (by omega), ex1_at, ex1_at, ex1_at, ex1_at, ex1_at, ex1_at]
    exact ⟨hc, rfl⟩
  · rw [owF_lo (by omega), ex1_ne (f := ts) (i := i) (by omega), ex1_ne (f := ts) (i := i + 1) (by omega), ex1_ne (f := css) (i := i) (by omega), ex1_ne (f := css) (i := i + 1) (by omega), ex1_ne (f := kk) e, ex1_ne (f := vv) e, ex1_ne (f := ww) e, ex1_ne (f := CC) e]
    exact h3 i (by omega)
theorem Seq.nw {k : Nat} (hk : ∀ t, kd t ≠ 0 → t < k) (h : Seq kd vl N ts css kk vv ww CC) (hc : ClauseR kd vl N (owF kk N) (ts N) (.inr (t', k', v, w, C))) : k' ≤ 2 → ¬ owF kk N k' := fun h2 => ((clause_ok hk (seq_b hk h N (Nat.le_refl _)).1 hc).2.2.2.2.2.1 h2).1
theorem RwC.more {k : Nat} {g g' : Nat → Nat → Int} (hk : ∀ t, kd t ≠ 0 → t < k) (h : Seq kd vl N ts css kk vv ww CC) (hc : ClauseR kd vl N (owF kk N) (ts N) (.inr (t', k', v, w, C))) (hR : RwC g N css kk vv ww CC) (hA : AfC N (css N) g g' k' v w C) : RwC g' (N + 1) (ex1 css (N + 1) (css N + C.length)) (ex1 kk N k') (ex1 vv N v) (ex1 ww N w) (ex1 CC N C) := by
  obtain ⟨a1, a2, a3, a4, a5, a6, a7, a8, a9, a10⟩ := hA
  have nw := h.nw hk hc
  refine ⟨fun i hi => ?_, fun x hx hno => ?_⟩
  · by_cases e : i = N
    · subst e
      rw [ex1_at, ex1_at, ex1_at, ex1_at, ex1_at, ex1_ne (f := css) (i := i) (by omega)]
      exact ⟨a4, a5, a6, a8, a10⟩
    · have hiN : i < N := by omega
      obtain ⟨b1, b2, b3, b4, b5⟩ := hR.1 i hiN
      obtain ⟨c1, c2, c3⟩ := a3 i e
      have hcs := (h.2.2 i hiN).2
      have hmo := seq_mono h (show i + 1 ≤ N by omega) (Nat.le_refl _)
      rw [ex1_ne (f := css) (i := i) (by omega), ex1_ne (f := css) (i := i + 1) (by omega), ex1_ne (f := kk) e, ex1_ne (f := vv) e, ex1_ne (f := ww) e, ex1_ne (f := CC) e, c1, c2, c3]
      refine ⟨b1, b2, b3, fun x hx => ?_, fun h2 => ?_⟩
      · rw [a7 _ (by omega)]; exact b4 x hx
      · have hne : kk i ≠ k' ∨ 2 < k' := by
          by_cases e2 : kk i = k'
          · exact absurd ⟨i, hiN, e2⟩ (nw (by omega))
          · exact Or.inl e2
        rw [(a9 _ hne).1, (a9 _ hne).2]
        exact b5 h2
  · have h1 : ¬ owF kk N x := fun o => hno (owF_up.mpr (Or.inl o))
    have h2 : x ≠ k' := fun o => hno (owF_up.mpr (Or.inr o))
    rw [(a9 x (Or.inl h2)).1, (a9 x (Or.inl h2)).2]
    exact hR.2 x hx h1
theorem RwR.more {k x0 : Nat} {g g' : Nat → Nat → Int} (h : Seq kd vl N ts css kk vv ww CC) (hk : ∀ t, kd t ≠ 0 → t < k) (hc : ClauseR kd vl N (owF kk N) (ts N) (.inr (t', k', v, w, C))) (hR : RwR g x0 N css kk vv ww CC) (hA : AfR x0 N (css N) g g' k' v w C) : RwR g' x0 (N + 1) (ex1 css (N + 1) (css N + C.length)) (ex1 kk N k') (ex1 vv N v) (ex1 ww N w) (ex1 CC N C) := by
  obtain ⟨a1, a2, a3, a4, a5, a6, a7, a8, a9⟩ := hA
  have hb := seq_b hk h
  refine ⟨a2, fun i hi => ?_⟩
  by_cases e : i = N
  · subst e
    rw [ex1_at, ex1_at, ex1_at, ex1_at, ex1_at, ex1_ne (f := css) (i := i) (by omega)]
    exact ⟨a3, a4, a5, a7, a6⟩
  · have hiN : i < N := by omega
    obtain ⟨b1, b2, b3, b4, b5⟩ := hR.2 i hiN
    have hcs := (h.2.2 i hiN).2
    have hmo := seq_mono h (show i + 1 ≤ N by omega) (Nat.le_refl _)
    rw [ex1_ne (f := css) (i := i) (by omega), ex1_ne (f := css) (i := i + 1) (by omega), ex1_ne (f := kk) e, ex1_ne (f := vv) e, ex1_ne (f := ww) e, ex1_ne (f := CC) e, a1 _ (Or.inl ⟨by omega, by omega⟩), a1 _ (Or.inl ⟨by omega, by omega⟩), a1 _ (Or.inl ⟨by omega, by omega⟩)]
    refine ⟨b1, b2, b3, fun x hx => ?_, b5⟩
    rw [a1 _ (Or.inr ⟨by omega, by omega⟩), a1 _ (Or.inr ⟨by omega, by omega⟩)]
    exact b4 x hx
end SX
