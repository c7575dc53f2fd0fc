-- a text's rows out of its clauses
theorem run_congr {o v o' v' nm : Nat → Int} {pays : Bool} {lo hi : Nat} (h : ∀ i, lo ≤ i → i < hi → o' i = o i ∧ v' i = v i) : ∀ k s t, Run o v nm pays lo hi k s t → Run o' v' nm pays lo hi k s t := by
  intro k
  induction k with
  | zero => intro s t hr; exact hr
  | succ k ih =>
    intro s t hr
    obtain ⟨a, b⟩ := hr
    obtain ⟨i, n, ag, vals, times, tot, i8⟩ := s
    obtain ⟨e1, e2⟩ := h i a.1.1 a.1.2
    have es : st1 o' v' nm (i, n, ag, vals, times, tot, i8) = st1 o v nm (i, n, ag, vals, times, tot, i8) := by
      unfold st1
      simp only [e1, e2]
    refine ⟨?_, ?_⟩
    · unfold ok1 at a ⊢
      simp only [e1, e2] at a ⊢
      exact a
    · rw [es]; exact ih _ _ b
theorem EvSeg.congr {o v o' v' : Nat → Int} {pays it : Bool} {lo hi H : Nat} (h : ∀ i, lo ≤ i → i < hi → o' i = o i ∧ v' i = v i) (hE : EvSeg o v pays it lo hi H) : EvSeg o' v' pays it lo hi H := by
  obtain ⟨X, h1, h2, h3⟩ := hE
  refine ⟨X, h1, h2, fun nm hnm n ag vals times tot i8 hn hag hok hi8 => ?_⟩
  obtain ⟨k, ag', vals', times', tot', i8', r1, r2, r3⟩ := h3 nm hnm n ag vals times tot i8 hn hag hok hi8
  exact ⟨k, ag', vals', times', tot', i8', r1, run_congr h _ _ _ r2, r3⟩
theorem TextOk.ext {dd dd' : List (Nat × Nat)} {q : Nat} {g g' : Nat → Nat → Int} {T T' : Nat → Int} {t : Nat} (H : TextOk dd q g T t) (hd : ∀ (j : Nat) (x : Nat × Nat), dd[j]? = some x → dd'[j]? = some x) (eg : ∀ q, 149 ≤ q → q < 149 + 7 * dd.length → g' q = g q) (eT : ∀ i, 681 * t ≤ i → i < 681 * t + 681 → T' i = T i) : TextOk dd' q g' T' t := by
  obtain ⟨j, n, c, h1, h2, h3, h4, h5, h6, h7, h8⟩ := H
  have hj : j < dd.length := by
    have := List.getElem?_eq_some_iff.mp h1
    exact this.1
  refine ⟨j, n, c, hd j _ h1, h2, h3, h4, by rw [eg _ (by omega) (by omega)]; exact h5, by rw [eT _ (by omega) (by omega)]; exact h6, fun k hk => ?_, fun w hw => ?_⟩
  · have := h7 k hk
    unfold ClOk at this ⊢
    rw [eg (q + 4) (by omega) (by omega), eg (q + 5) (by omega) (by omega), eg (q + 6) (by omega) (by omega), eT (681 * t + 1 + 3 * k) (by omega) (by omega), eT (681 * t + 2 + 3 * k) (by omega) (by omega), eT (681 * t + 3 + 3 * k) (by omega) (by omega)]
    exact this
  · have := h8 w hw
    unfold LawOk at this ⊢
    rw [eg (q + 1) (by omega) (by omega), eg (q + 2) (by omega) (by omega), eg (q + 3) (by omega) (by omega)]
    rcases this with ⟨a, b, e⟩ | ⟨k, lo, hi, a1, a2, a3, a4, a5, a6, a7, a8, a9, a10, a11⟩
    · exact Or.inl ⟨a, b, fun k hk => by rw [eT _ (by omega) (by omega)]; exact e k hk⟩
    · refine Or.inr ⟨k, lo, hi, a1, ?_, fun k' hk' => ?_, a4, a5, ?_, ?_, a8, a9, fun i i1 i2 => ?_, ?_⟩
      · rw [eT _ (by omega) (by omega)]; exact a2
      · rw [eT _ (by omega) (by omega)]; exact a3 k' hk'
      · rw [eT _ (by omega) (by omega)]; exact a6
      · rw [eT _ (by omega) (by omega)]; exact a7
      · rw [eT (681 * t + 73 + 2 * i) (by omega) (by omega), eT (681 * t + 74 + 2 * i) (by omega) (by omega)]; exact a10 i i1 i2
      · exact EvSeg.congr (fun i i1 i2 => ⟨eT _ (by omega) (by omega), eT _ (by omega) (by omega)⟩) a11
theorem fig_ok {kd vl : Nat → Int} {lo hi : Int} {t : Nat} (h : Fig kd vl lo hi t 0) : kd t = 2 ∧ lo ≤ vl t ∧ vl t ≤ hi := by
  rcases h with ⟨_, h⟩ | ⟨_, _, h⟩ | ⟨a, b, c, _⟩
  · exact absurd h (by decide)
  · exact absurd h (by decide)
  · exact ⟨a, b, c⟩
theorem clause_ok {kd vl : Nat → Int} {k : Nat} (hk : ∀ t, kd t ≠ 0 → t < k) {c : Nat} {ow : Nat → Prop} {t t' kk : Nat} {v w : Int} {C : List (Int × Int)} (htk : t ≤ k) (h : ClauseR kd vl c ow t (.inr (t', kk, v, w, C))) :
    t < t' ∧ t' ≤ k ∧ C.length ≤ t' - t ∧ kk ≤ 10 ∧ c < 24 ∧ (kk ≤ 2 → ¬ ow kk ∧ 1 ≤ C.length ∧ v0 C ∧ ∃ t1, SumR (OneR kd vl (kk == 2) 8 false) kd 300 (t + 1) [] (-1) (-1) (.inr (t1, C))) ∧ (3 ≤ kk → C = [] ∧ 0 ≤ v ∧ v ≤ 60 ∧ (kk = 10 → 1 ≤ v)) ∧ (isTwo kk → 0 ≤ w ∧ w ≤ 39) := by
  rcases h with ⟨_, h⟩ | ⟨w0, h1, h2, h⟩
  · cases h
  · have ht := hk t (by omega)
    rcases h with ⟨_, _, h⟩ | ⟨_, _, h⟩ | ⟨hn, hc, h⟩
    · cases h
    · cases h
    · rcases h with ⟨hw2, r', hsum, h⟩ | ⟨hw3, htw, h⟩ | ⟨hw3, htw, h⟩
      · rcases h with ⟨e, _, h⟩ | ⟨t1, C1, e1, h⟩
        · cases h
        · rcases h with ⟨_, h⟩ | ⟨h9, h⟩
          · cases h
          · cases h
            rw [e1] at hsum
            obtain ⟨⟨w9, w91, w92⟩, s1, s2, s3, s4⟩ := sum_ok hk (fun t t' c hh h => one_ok hk 8 false t t' c hh h) 300 (t + 1) [] (-1) (-1) t1 C (by omega) (fun x hx => absurd hx (by simp)) hsum
            have lm := (dd1_len (-1)).2.1 rfl
            have lc : ([] : List (Int × Int)).length = 0 := rfl
            have lw : C.length = w9.length := by rw [w91]; simp
            have := hk t1 (by omega)
            exact ⟨by omega, by omega, by omega, h2, hc, fun _ => ⟨fun x => hn ⟨hw2, x⟩, by omega, s4, t1, hsum⟩, fun h => absurd h (by omega), fun h => absurd h (by unfold isTwo; omega)⟩
      · rcases h with ⟨_, _, _, h⟩ | ⟨_, _, h⟩ | ⟨_, _, _, _, _, h⟩ | ⟨_, _, _, _, h⟩ | ⟨b1, b2, b3, b4, h⟩
        · cases h
        · cases h
        · cases h
        · cases h
        · cases h
          obtain ⟨c1, c2, c3⟩ := fig_ok b1
          obtain ⟨d1, d2, d3⟩ := fig_ok b3
          have := hk (t + 1 + 3) (by omega)
          have hm : mx1 kk ≤ 9 := by unfold mx1; split <;> decide
          have hl : 0 ≤ lo2 kk := by unfold lo2; split <;> decide
          have hh : hi2 kk ≤ 39 := by unfold hi2; split <;> decide
          refine ⟨by omega, by omega, by simp, h2, hc, fun h => absurd h (by omega), fun _ => ⟨rfl, c2, by omega, fun e => ?_⟩, fun _ => ⟨by omega, by omega⟩⟩
          unfold isTwo at htw
          omega
      · rcases h with ⟨_, _, _, h⟩ | ⟨_, _, h⟩ | ⟨b1, b2, h⟩
        · cases h
        · cases h
        · cases h
          obtain ⟨c1, c2, c3⟩ := fig_ok b1
          have := hk (t + 1 + 1) (by omega)
          have hl : 0 ≤ lo1 kk ∧ (kk = 10 → 1 ≤ lo1 kk) := by unfold lo1; split <;> omega
          have hh : hi1 kk ≤ 60 := by unfold hi1; split <;> (try split) <;> decide
          exact ⟨by omega, by omega, by simp, h2, hc, fun h => absurd h (by omega), fun _ => ⟨rfl, by omega, by omega, fun e => by have := hl.2 e; omega⟩, fun h => absurd h htw⟩
def owF (kk : Nat → Nat) (i w : Nat) : Prop := ∃ j, j < i ∧ kk j = w
/-- N clauses, one behind another -/
def Seq (kd vl : Nat → Int) (N : Nat) (ts css kk : Nat → Nat) (vv ww : Nat → Int) (CC : Nat → List (Int × Int)) : Prop := ts 0 = 0 ∧ css 0 = 0 ∧ ∀ i, i < N → ClauseR kd vl i (owF kk i) (ts i) (.inr (ts (i + 1), kk i, vv i, ww i, CC i)) ∧ css (i + 1) = css i + (CC i).length
theorem seq_b {kd vl : Nat → Int} {k N : Nat} {ts css kk : Nat → Nat} {vv ww : Nat → Int} {CC : Nat → List (Int × Int)} (hk : ∀ t, kd t ≠ 0 → t < k) (h : Seq kd vl N ts css kk vv ww CC) : ∀ i, i ≤ N → ts i ≤ k ∧ css i ≤ ts i ∧ i ≤ 24 := by
  intro i
  induction i with
  | zero => intro _; rw [h.1, h.2.1]; exact ⟨Nat.zero_le _, Nat.le_refl _, by decide⟩
  | succ i ih =>
    intro hi
    obtain ⟨i1, i2, i3⟩ := ih (by omega)
    obtain ⟨c1, c2⟩ := h.2.2 i (by omega)
    obtain ⟨a1, a2, a3, a4, a5, _⟩ := clause_ok hk i1 c1
    exact ⟨a2, by omega, by omega⟩
theorem seq_mono {kd vl : Nat → Int} {N : Nat} {ts css kk : Nat → Nat} {vv ww : Nat → Int} {CC : Nat → List (Int × Int)} (h : Seq kd vl N ts css kk vv ww CC) {i j : Nat} (hij : i ≤ j) (hj : j ≤ N) : css i ≤ css j := by
  induction j with
  | zero =>
    have : i = 0 := by omega
    subst this
    exact Nat.le_refl _
  | succ j ih =>
    by_cases e : i = j + 1
    · subst e; exact Nat.le_refl _
    · have := ih (by omega) (by omega)
      have := (h.2.2 j (by omega)).2
      omega
def RwC (g : Nat → Nat → Int) (N : Nat) (css kk : Nat → Nat) (vv ww : Nat → Int) (CC : Nat → List (Int × Int)) : Prop :=
  (∀ i, i < N → g 109 i = (kk i : Int) ∧ (3 ≤ kk i → g 110 i = vv i) ∧ (isTwo (kk i) → g 111 i = ww i) ∧ Rws g (css i) (CC i) ∧ (kk i ≤ 2 → g 113 (kk i) = (css i : Int) ∧ g 114 (kk i) = (css (i + 1) : Int))) ∧ ∀ w, w < 3 → ¬ owF kk N w → g 113 w = 0 ∧ g 114 w = 0
def RwR (g : Nat → Nat → Int) (x0 N : Nat) (css kk : Nat → Nat) (vv ww : Nat → Int) (CC : Nat → List (Int × Int)) : Prop :=
  g 137 x0 = (N : Int) ∧ ∀ i, i < N → g 137 (x0 + 1 + 3 * i) = (kk i : Int) ∧ (3 ≤ kk i → g 137 (x0 + 2 + 3 * i) = vv i) ∧ (isTwo (kk i) → g 137 (x0 + 3 + 3 * i) = ww i) ∧ Cod g x0 (css i) (CC i) ∧ (kk i ≤ 2 → g 137 (x0 + 2 + 3 * i) = (css i : Int) ∧ g 137 (x0 + 3 + 3 * i) = (css (i + 1) : Int))
theorem newText {kd vl : Nat → Int} {k N j q t : Nat} {ts css kk : Nat → Nat} {vv ww : Nat → Int} {CC : Nat → List (Int × Int)} {dd : List (Nat × Nat)} {gc g gr : Nat → Nat → Int} (hk : ∀ t, kd t ≠ 0 → t < k) (hk3 : k ≤ 300) (hvl : ∀ t, kd t = 2 → 0 ≤ vl t) (hS : Seq kd vl N ts css kk vv ww CC) (hC : RwC gc N css kk vv ww CC) (hR : RwR gr (681 * t) N css kk vv ww CC) (hj : dd[j]? = some (css N, N)) (hq : q = 149 + 7 * j) (hN : N ≤ 24)
    (e0 : g q 3 = (N : Int)) (e1 : ∀ w, w < 3 → g (q + 1) w = gc 113 w) (e2 : ∀ w, w < 3 → g (q + 2) w = gc 114 w) (e3 : ∀ i, i < css N → g (q + 3) i = gc 112 i) (e4 : ∀ i, i < N → g (q + 4) i = gc 109 i) (e5 : ∀ i, i < N → g (q + 5) i = gc 110 i) (e6 : ∀ i, i < N → g (q + 6) i = gc 111 i) : TextOk dd q g (gr 137) t := by
  have hb := seq_b hk hS
  have hbN := hb N (Nat.le_refl _)
  refine ⟨j, css N, N, hj, hq, hN, by omega, e0, hR.1, fun i hi => ?_, fun w hw => ?_⟩
  · obtain ⟨c1, c2, c3, c4, c5⟩ := hC.1 i hi
    obtain ⟨r1, r2, r3, r4, r5⟩ := hR.2 i hi
    obtain ⟨a1, a2, a3, a4, a5, a6, a7, a8⟩ := clause_ok hk (hb i (by omega)).1 (hS.2.2 i hi).1
    unfold ClOk
    rw [e4 i hi, e5 i hi, e6 i hi, c1, r1]
    refine ⟨rfl, by omega, by omega, fun h3 => ?_, fun h2 => ?_⟩
    · have := a7 (by omega)
      rw [c2 (by omega), r2 (by omega)]
      exact ⟨rfl, this.2.1, this.2.2.1, fun h => this.2.2.2 (by omega)⟩
    · have htw : isTwo (kk i) := by unfold isTwo; omega
      have := a8 htw
      rw [c3 htw, r3 htw]
      exact ⟨rfl, this⟩
  · unfold LawOk
    rw [e1 w hw, e2 w hw]
    by_cases ho : owF kk N w
    · obtain ⟨i, hi, hiw⟩ := ho
      obtain ⟨c1, c2, c3, c4, c5⟩ := hC.1 i hi
      obtain ⟨r1, r2, r3, r4, r5⟩ := hR.2 i hi
      obtain ⟨a1, a2, a3, a4, a5, a6, a7, a8⟩ := clause_ok hk (hb i (by omega)).1 (hS.2.2 i hi).1
      obtain ⟨b1, b2, b3, t1, b4⟩ := a6 (by omega)
      have hcs := (hS.2.2 i hi).2
      have hmono := seq_mono hS (show i + 1 ≤ N by omega) (Nat.le_refl _)
      have c5' := c5 (by omega)
      have r5' := r5 (by omega)
      rw [hiw] at c5' b4
      have hti := (hb i (by omega)).1
      refine Or.inr ⟨i, css i, css (i + 1), hi, by rw [r1, hiw], fun i' hi' => ?_, c5'.1, c5'.2, r5'.1, r5'.2, by omega, hmono, fun x hx1 hx2 => ?_, ?_⟩
      · rw [(hR.2 i' (by omega)).1]
        intro e
        exact b1 ⟨i', hi', by omega⟩
      · have hx : x = css i + (x - css i) := by omega
        have hxl : x - css i < (CC i).length := by omega
        rw [e3 x (by omega)]
        have q1 := c4 (x - css i) hxl
        have q2 := r4 (x - css i) hxl
        rw [← hx] at q1 q2
        rw [q1, q2.1, q2.2]
        refine ⟨rfl, fun h2 => ?_⟩
        refine b3 _ ?_ h2
        rw [List.getD_eq_getElem?_getD, List.getElem?_eq_getElem hxl]
        exact List.getElem_mem _
      · have hat : AtC (fun i => gr 137 (681 * t + 73 + 2 * i)) (fun i => gr 137 (681 * t + 74 + 2 * i)) (css i) (CC i) := fun x hx => r4 x hx
        have htlt : ts i < k := by
          obtain ⟨z1, z2, _⟩ := clause_ok hk hti (hS.2.2 i hi).1
          omega
        have ev := sum_ev (lo := css i) (m := 8) (pays := w == 2) (it := false) hk (fun t t' c hh h => one_ok hk 8 false t t' c hh h) (fun t t' c l hh h ha h9 => one_ev hk hvl 8 false t t' c l hh h ha h9) 300 (ts i + 1) [] (-1) (-1) t1 (CC i) (by omega) b4 hat (by omega) (Or.inl ⟨rfl, rfl, rfl⟩)
        rw [hcs]
        exact ev.mono (by decide)
    · obtain ⟨z1, z2⟩ := hC.2 w hw ho
      refine Or.inl ⟨z1, z2, fun i hi => ?_⟩
      rw [(hR.2 i hi).1]
      intro e
      exact ho ⟨i, hi, by omega⟩
