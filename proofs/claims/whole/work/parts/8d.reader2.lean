-- the class's reader of laws: sums, totals
section RD2
variable {k : Nat} {kd vl sp : Nat → Int} {pays : Bool}
theorem b_readOne {d : Nat} {dd : List (Nat × Nat)} {sh : Nat → Nat → Nat} {g : Nat → Nat → Int} {K : (Nat → Nat → Int) → Prop} {f p v1 : Int} (h : Bd k kd g f p) (hK : K g) : cV (d + 1) m_X6_readOne [(vR 108), (vI v1)] dd sh g K := by
  obtain ⟨h1, h2, h3, h4, h5, h6⟩ := h
  refine mkV (ls := [some (vR 108), some (vI v1)]) rfl rfl rfl rfl rfl (r_X6_readOne_0 ?_)
  rw [h1]
  exact ⟨⟨by omega, by omega⟩, fun h => absurd h (by omega), fun _ => hK⟩
def dcl (x : Int) : Int := if x = -1 then -1 else deedOf x
def Rws (g : Nat → Nat → Int) (cs : Nat) (c : List (Int × Int)) : Prop := ∀ i, i < c.length → g 112 (cs + i) = deedOf (c.getD i (0, 0)).1 * 10000 + (c.getD i (0, 0)).2
theorem Rws.app {g g' : Nat → Nat → Int} {cs : Nat} {c c' : List (Int × Int)} (h : Rws g cs c) (e : ∀ i, i < cs + c.length → g' 112 i = g 112 i) (h' : Rws g' (cs + c.length) c') : Rws g' cs (c ++ c') := fun i hi => by
  by_cases hh : i < c.length
  · rw [getD_left hh, e _ (by omega)]; exact h i hh
  · have hl : (c ++ c').length = c.length + c'.length := List.length_append
    have e1 : i = c.length + (i - c.length) := by omega
    rw [e1, getD_right, ← Nat.add_assoc]
    exact h' _ (by omega)
theorem g_putdd {d : Nat} {dd : List (Nat × Nat)} {sh : Nat → Nat → Nat} {g : Nat → Nat → Int} {K : (Nat → Nat → Int) → Prop} {t cs : Nat} {it : Bool} {x : Int} (h : Gd k kd g t cs it) (hx : x = -1 ∨ x = 4 ∨ x = 5 ∨ x = 6 ∨ x = 7) (hcs : cs + (dd1 x).length ≤ 300) (hK : ∀ g', RdF g g' → Gd k kd g' t (cs + (dd1 x).length) it → (∀ i, i < cs → g' 112 i = g 112 i) → Rws g' cs (dd1 x) → K g') : cV (d + 1) m_X6_put [(vR 108), (vI (dcl x)), (vI 0)] dd sh g K := by
  by_cases e : x = -1
  · subst e
    have e1 : dd1 (-1) = [] := rfl
    rw [e1] at hK
    exact g_put h (by decide) (fun h => absurd rfl h) (fun _ => hK g RdF.rf h (fun _ _ => rfl) (fun i hi => absurd hi (by simp))) (fun h => absurd rfl h) (by omega)
  · have e1 : dd1 x = [(x, 0)] := if_neg e
    have e2 : dcl x = deedOf x := if_neg e
    rw [e1] at hK hcs
    rw [List.length_singleton] at hK hcs
    have hd : 2 ≤ deedOf x ∧ deedOf x ≤ 5 := by
      rcases hx with rfl | rfl | rfl | rfl | rfl
      · exact absurd rfl e
      · decide
      · decide
      · decide
      · decide
    rw [e2]
    refine g_put h (by omega) (fun _ => by omega) (fun h => absurd h (by omega)) (fun _ g1 f1 hG hr hv => hK g1 f1 hG (fun i hi => hr i (by omega)) fun i hi => ?_) (by omega)
    have : i = 0 := by simpa using hi
    subst this
    exact hv
def Pone (k : Nat) (kd vl sp : Nat → Int) (pays : Bool) (m : Nat) : Prop := ∀ {e : Nat} {dd : List (Nat × Nat)} {sh : Nat → Nat → Nat} {g : Nat → Nat → Int} {K : (Nat → Nat → Int) → Prop} {t cs : Nat} {it : Bool}, TS k kd vl sp pays true g → Gd k kd g t cs it → cs ≤ t → (∀ g' r, OneR kd vl pays m it t r → Aft k kd sp g g' it cs r → K g') → cV (e + 2 * m + 3) m_X6_readOne [(vR 108), (vI (8 - (m : Int)))] dd sh g K
/-- a fault: the rest of a sum does nothing -/
theorem b_sum {d : Nat} {dd : List (Nat × Nat)} {sh : Nat → Nat → Nat} {g : Nat → Nat → Int} {K : (Nat → Nat → Int) → Prop} {D : Nat} {f p v1 v2 v3 v4 v5 : Int} (hT : TS k kd vl sp pays true g) (h : Bd k kd g f p) (h4 : v4 = 0 ∨ v4 = 1) (h5 : 0 ≤ v5 ∧ v5 < 299) (hK : ∀ g', RdF g g' → Bd k kd g' f p → K g') : rV (D + 1) m_X6_readSum 120 [some (vR 108), some (vI v1), some (vI v2), some (vI v3), some (vI v4), some (vI v5)] [] dd sh g K := by
  have last : ∀ g', RdF g g' → Bd k kd g' f p → rV (D + 1) m_X6_readSum 129 [some (vR 108), some (vI v1), some (vI v2), some (vI v3), some (vI v4), some (vI v5)] [] dd sh (g') K := fun g' f' hB => by
    have hK' := hK g' f' hB
    obtain ⟨h1, h2, h3, h4', h5', h6⟩ := hB
    refine r_X6_readSum_129 (r_X6_readSum_10 ?_)
    rw [h1]
    exact ⟨⟨by omega, by omega⟩, fun h => absurd h (by omega), fun _ => ⟨⟨by omega, by omega⟩, fun _ => hK', fun h => absurd h (by omega)⟩⟩
  refine r_X6_readSum_120 ⟨by rcases h4 with rfl | rfl <;> exact ⟨by decide, by decide⟩, fun _ => last g RdF.rf h, fun _ => ?_⟩
  exact b_goOn hT h fun g' f' hB => last g' f' hB
theorem c_readSum {d : Nat} {dd : List (Nat × Nat)} {sh : Nat → Nat → Nat} {g : Nat → Nat → Int} {K : (Nat → Nat → Int) → Prop} {e m t cs : Nat} {it : Bool} (ih1 : Pone k kd vl sp pays m) (hT : TS k kd vl sp pays true g) (h : Gd k kd g t cs it) (hcs : cs ≤ t) (hK : ∀ g' r, SumR (OneR kd vl pays m it) kd 300 t [] (-1) (-1) r → Aft k kd sp g g' it cs r → K g') : cV (e + 2 * m + 4) m_X6_readSum [(vR 108), (vI (8 - (m : Int)))] dd sh g K := by
  have hk := hT.2.2.2.2.2.1
  have hk3 := hT.2.1
  have hk32 := hT.2.2.2.2.1
  have main : ∀ (f tl : Nat) (c : List (Int × Int)) (s p : Int) (g1 : Nat → Nat → Int), f ≤ 300 → 2 * (300 - f) ≤ tl → RdF g g1 → Gd k kd g1 tl (cs + c.length) it → cs + c.length + (dd1 p).length + (dd1 s).length ≤ tl → (s = -1 ∨ s = 4 ∨ s = 5) → (p = -1 ∨ p = 6 ∨ p = 7) → (∀ i, i < cs → g1 112 i = g 112 i) → Rws g1 cs c → (∀ r, SumR (OneR kd vl pays m it) kd f tl c s p r → SumR (OneR kd vl pays m it) kd 300 t [] (-1) (-1) r) → rV (e + 2 * m + 3) m_X6_readSum 10 [some (vR 108), some (vI ((8 - (m : Int)))), some (vI (dcl s)), some (vI (dcl p)), some (vI 1), some (vI (((300 - f : Nat) : Int)))] [] dd sh g1 K := by
    intro f
    induction f with
    | zero => intro tl c s p g1 _ h2 f1 hG; have := hG.2.2.1; omega
    | succ f ihf =>
      intro tl c s p g1 hf h2 f1 hG hl hs hp hr0 hrw hcont
      have hT1 := hT.fr f1
      have htl := hG.2.2.1
      refine r_X6_readSum_10 ?_
      rw [hG.1]
      refine ⟨⟨by omega, by omega⟩, fun h => absurd h (by omega), fun _ => ⟨⟨by decide, by decide⟩, fun h => absurd rfl h, fun _ => ⟨⟨by decide, by decide⟩, fun h => absurd h (by decide), fun _ => ?_⟩⟩⟩
      refine ih1 (e := e) hT1 hG (by omega) fun g2 r hr ha => ?_
      obtain ⟨f2, ha⟩ := ha
      have hT2 := hT1.fr f2
      cases r with
      | inl e1 =>
        obtain ⟨fa, pa⟩ := e1
        have hB : Bd k kd g2 fa (sp pa) := ha
        have hi4 : i32 (g2 108 4) := by obtain ⟨_, _, _, ⟨u, _, _, u3⟩, _, _⟩ := hB; rw [u3]; have := hk32 u; exact ⟨by omega, by omega⟩
        have fin : ∀ g', RdF g2 g' → Bd k kd g' fa (sp pa) → K g' := fun g' f3 hB' => hK g' (.inl (fa, pa)) (hcont _ (Or.inl ⟨(fa, pa), hr, rfl⟩)) ⟨f1.tr (f2.tr f3), hB'⟩
        have go : ∀ v2 v3 v4, (v4 = 0 ∨ v4 = 1) → rV (e + 2 * m + 3) m_X6_readSum 120 [some (vR 108), some (vI ((8 - (m : Int)))), some (vI v2), some (vI v3), some (vI v4), some (vI (((300 - (f + 1) : Nat) : Int)))] [] dd sh g2 K := fun v2 v3 v4 h4 => b_sum (d := 0) (D := e + 2 * m + 2) hT2 hB h4 (by omega) fin
        refine b_put (d := e + 2 * m + 2) hB ⟨hi4, fun _ => ⟨fun _ => go _ _ _ (Or.inr rfl), fun _ => go _ _ _ (Or.inr rfl)⟩, fun _ => ⟨fun _ => ?_, fun _ => ⟨fun _ => go _ _ _ (Or.inr rfl), fun _ => go _ _ _ (Or.inr rfl)⟩⟩⟩
        refine b_put (d := e + 2 * m + 2) hB ⟨hi4, fun _ => ⟨fun _ => go _ _ _ (Or.inr rfl), fun _ => go _ _ _ (Or.inr rfl)⟩, fun _ => ⟨fun _ => ⟨fun _ => go _ _ _ (Or.inl rfl), fun _ => go _ _ _ (Or.inl rfl)⟩, fun _ => ⟨fun _ => go _ _ _ (Or.inr rfl), fun _ => go _ _ _ (Or.inr rfl)⟩⟩⟩
      | inr x =>
        obtain ⟨t1, c1⟩ := x
        obtain ⟨hG2, hlo2, hrw2⟩ := ha
        obtain ⟨o1, o2, o3, o4, o5⟩ := one_ok hk m it tl t1 c1 htl hr
        have hc1 : cs + (c ++ c1).length = cs + c.length + c1.length := by rw [List.length_append]; omega
        have hrwA : Rws g2 cs (c ++ c1) := hrw.app hlo2 hrw2
        have lp := dd1_len p
        have ls := dd1_len s
        refine g_putdd (d := e + 2 * m + 2) hG2 (by omega) (by omega) fun g3 f3 hG3 hlo3 hrw3 => ?_
        have hT3 := hT2.fr f3
        have hrwB : Rws g3 cs (c ++ c1 ++ dd1 p) := hrwA.app (fun i hi => hlo3 i (by omega)) (by rw [hc1]; exact hrw3)
        have hcB : cs + (c ++ c1 ++ dd1 p).length = cs + c.length + c1.length + (dd1 p).length := by rw [List.length_append]; omega
        rw [← hcB] at hG3
        have hk4 := hG3.2.2.2.1
        have hi4 : i32 (kd t1) := by have := hk32 t1; exact ⟨by omega, by omega⟩
        rw [hk4]
        -- on to the next of a product
        have goP : ∀ p', (p' = 6 ∨ p' = 7) → kd t1 ≠ 0 → (∀ r, SumR (OneR kd vl pays m it) kd f (t1 + 1) (c ++ c1 ++ dd1 p) s p' r → SumR (OneR kd vl pays m it) kd (f + 1) tl c s p r) → rV (e + 2 * m + 3) m_X6_readSum 120 [some (vR 108), some (vI ((8 - (m : Int)))), some (vI (dcl s)), some (vI (dcl p')), some (vI 1), some (vI (((300 - (f + 1) : Nat) : Int)))] [] dd sh g3 K := fun p' hp' hne hrel => by
          have lp' := (dd1_len p').2.2 (by omega)
          refine r_X6_readSum_120 ⟨⟨by decide, by decide⟩, fun h => absurd h (by decide), fun _ => ?_⟩
          refine g_goOn (d := e + 2 * m + 2) hT3 hG3 (hk t1 hne) fun g4 f4 e4 hG4 => r_X6_readSum_129 ?_
          have := ihf (t1 + 1) (c ++ c1 ++ dd1 p) s p' g4 (by omega) (by omega) (f1.tr (f2.tr (f3.tr f4))) hG4 (by omega) hs (by omega) (fun i hi => by rw [e4, hlo3 i (by omega), hlo2 i (by omega)]; exact hr0 i hi) (fun i hi => by rw [e4]; exact hrwB i hi) (fun r hr => hcont r (hrel r hr))
          rw [show ((300 - (f + 1) : Nat) : Int) + 1 = ((300 - f : Nat) : Int) by omega]
          exact this
        have endS : cV (e + 2 * m + 3) m_X6_put [(vR 108), (vI (dcl s)), (vI 0)] dd sh g3 (fun g17 => (i32 (g17 108 4)) ∧ ((g17 108 4 = 3 → ((¬ g17 108 4 = 3 → rV (e + 2 * m + 3) m_X6_readSum 120 [some (vR 108), some (vI ((8 - (m : Int)))), some (vI 3), some (vI (-1)), some (vI 1), some (vI (((300 - (f + 1) : Nat) : Int)))] [] dd sh g17 K) ∧ (g17 108 4 = 3 → rV (e + 2 * m + 3) m_X6_readSum 120 [some (vR 108), some (vI ((8 - (m : Int)))), some (vI 2), some (vI (-1)), some (vI 1), some (vI (((300 - (f + 1) : Nat) : Int)))] [] dd sh g17 K))) ∧ (¬ g17 108 4 = 3 → ((¬ g17 108 4 = 4 → ((¬ g17 108 4 = 3 → rV (e + 2 * m + 3) m_X6_readSum 120 [some (vR 108), some (vI ((8 - (m : Int)))), some (vI 3), some (vI (-1)), some (vI 0), some (vI (((300 - (f + 1) : Nat) : Int)))] [] dd sh g17 K) ∧ (g17 108 4 = 3 → rV (e + 2 * m + 3) m_X6_readSum 120 [some (vR 108), some (vI ((8 - (m : Int)))), some (vI 2), some (vI (-1)), some (vI 0), some (vI (((300 - (f + 1) : Nat) : Int)))] [] dd sh g17 K))) ∧ (g17 108 4 = 4 → ((¬ g17 108 4 = 3 → rV (e + 2 * m + 3) m_X6_readSum 120 [some (vR 108), some (vI ((8 - (m : Int)))), some (vI 3), some (vI (-1)), some (vI 1), some (vI (((300 - (f + 1) : Nat) : Int)))] [] dd sh g17 K) ∧ (g17 108 4 = 3 → rV (e + 2 * m + 3) m_X6_readSum 120 [some (vR 108), some (vI ((8 - (m : Int)))), some (vI 2), some (vI (-1)), some (vI 1), some (vI (((300 - (f + 1) : Nat) : Int)))] [] dd sh g17 K))))))) ∨ (kd t1 = 5 ∨ kd t1 = 6) := by
          by_cases hm : kd t1 = 5 ∨ kd t1 = 6
          · exact Or.inr hm
          refine Or.inl ?_
          refine g_putdd (d := e + 2 * m + 2) hG3 (by omega) (by omega) fun g4 f4 hG4 hlo4 hrw4 => ?_
          have hT4 := hT3.fr f4
          have hrwC : Rws g4 cs (c ++ c1 ++ dd1 p ++ dd1 s) := hrwB.app (fun i hi => hlo4 i (by omega)) hrw4
          have hcC : cs + (c ++ c1 ++ dd1 p ++ dd1 s).length = cs + (c ++ c1 ++ dd1 p).length + (dd1 s).length := by rw [List.length_append]; omega
          rw [← hcC] at hG4
          have hk5 := hG4.2.2.2.1
          rw [hk5]
          have lm := (dd1_len (-1)).2.1 rfl
          have goS : ∀ s', (s' = 4 ∨ s' = 5) → kd t1 ≠ 0 → (∀ r, SumR (OneR kd vl pays m it) kd f (t1 + 1) (c ++ c1 ++ dd1 p ++ dd1 s) s' (-1) r → SumR (OneR kd vl pays m it) kd (f + 1) tl c s p r) → rV (e + 2 * m + 3) m_X6_readSum 120 [some (vR 108), some (vI ((8 - (m : Int)))), some (vI (dcl s')), some (vI (-1)), some (vI 1), some (vI (((300 - (f + 1) : Nat) : Int)))] [] dd sh g4 K := fun s' hs' hne hrel => by
            have ls' := (dd1_len s').2.2 (by omega)
            refine r_X6_readSum_120 ⟨⟨by decide, by decide⟩, fun h => absurd h (by decide), fun _ => ?_⟩
            refine g_goOn (d := e + 2 * m + 2) hT4 hG4 (hk t1 hne) fun g5 f5 e5 hG5 => r_X6_readSum_129 ?_
            have := ihf (t1 + 1) (c ++ c1 ++ dd1 p ++ dd1 s) s' (-1) g5 (by omega) (by omega) (f1.tr (f2.tr (f3.tr (f4.tr f5)))) hG5 (by omega) (by omega) (by omega) (fun i hi => by rw [e5, hlo4 i (by omega), hlo3 i (by omega), hlo2 i (by omega)]; exact hr0 i hi) (fun i hi => by rw [e5]; exact hrwC i hi) (fun r hr => hcont r (hrel r hr))
            rw [show ((300 - (f + 1) : Nat) : Int) + 1 = ((300 - f : Nat) : Int) by omega]
            exact this
          refine ⟨hi4, fun e3 => ⟨fun h => absurd e3 h, fun _ => goS 4 (Or.inl rfl) (by omega) (fun r hr' => Or.inr ⟨t1, c1, hr, Or.inr (Or.inr (Or.inl ⟨e3, hr'⟩))⟩)⟩, fun n3 => ⟨fun n4 => ⟨fun _ => ?_, fun h => absurd h n3⟩, fun e4 => ⟨fun _ => goS 5 (Or.inr rfl) (by omega) (fun r hr' => Or.inr ⟨t1, c1, hr, Or.inr (Or.inr (Or.inr (Or.inl ⟨e4, hr'⟩)))⟩), fun h => absurd h n3⟩⟩⟩
          refine r_X6_readSum_120 ⟨⟨by decide, by decide⟩, fun _ => r_X6_readSum_129 (r_X6_readSum_10 ?_), fun h => absurd rfl h⟩
          have done : K g4 := hK g4 (.inr (t1, c ++ c1 ++ dd1 p ++ dd1 s)) (hcont _ (Or.inr ⟨t1, c1, hr, Or.inr (Or.inr (Or.inr (Or.inr ⟨by omega, by omega, n3, n4, rfl⟩)))⟩)) ⟨f1.tr (f2.tr (f3.tr f4)), hG4, fun i hi => by rw [hlo4 i (by omega), hlo3 i (by omega), hlo2 i (by omega)]; exact hr0 i hi, hrwC⟩
          rw [hG4.1]
          exact ⟨⟨by omega, by omega⟩, fun _ => done, fun _ => ⟨⟨by decide, by decide⟩, fun _ => done, fun _ => ⟨⟨by decide, by decide⟩, fun _ => done, fun h => absurd rfl h⟩⟩⟩
        refine ⟨hi4, fun e5 => ⟨fun h => absurd e5 h, fun _ => goP 6 (Or.inl rfl) (by omega) (fun r hr' => Or.inr ⟨t1, c1, hr, Or.inl ⟨e5, hr'⟩⟩)⟩, fun n5 => ⟨fun n6 => endS.resolve_right (by omega), fun e6 => ⟨fun _ => goP 7 (Or.inr rfl) (by omega) (fun r hr' => Or.inr ⟨t1, c1, hr, Or.inr (Or.inl ⟨e6, hr'⟩)⟩), fun h => absurd h n5⟩⟩⟩
  refine mkV (ls := [some (vR 108), some (vI (8 - (m : Int))), none, none, none, none]) rfl rfl rfl rfl rfl (r_X6_readSum_0 ?_)
  exact main 300 t [] (-1) (-1) g (Nat.le_refl _) (by omega) RdF.rf h (by show cs + 0 + 0 + 0 ≤ t; omega) (Or.inl rfl) (Or.inl rfl) (fun _ _ => rfl) (fun i hi => absurd hi (by simp)) (fun r hr => hr)
theorem Gd.up15 {g : Nat → Nat → Int} {t cs : Nat} {it it' : Bool} {x : Int} (h : Gd k kd g t cs it) (hx : x = if it' = true then 1 else 0) : RdF g (up g 108 15 x) ∧ Gd k kd (up g 108 15 x) t cs it' ∧ (up g 108 15 x) 112 = g 112 := by
  obtain ⟨h1, h2, h3, h4, h5, h6⟩ := h
  refine ⟨⟨fun q q1 _ => up_off q1, fun j _ _ _ _ _ j15 => by rw [up_at, if_neg j15]⟩, ⟨?_, ?_, h3, ?_, ?_, ?_⟩, up_off (by decide)⟩
  · rw [up_at, if_neg (by decide)]; exact h1
  · rw [up_at, if_neg (by decide)]; exact h2
  · rw [up_at, if_neg (by decide)]; exact h4
  · rw [up_at, if_neg (by decide)]; exact h5
  · rw [up_at, if_pos rfl]; exact hx
theorem Bd.up15 {g : Nat → Nat → Int} {f p : Int} (h : Bd k kd g f p) : RdF g (up g 108 15 0) ∧ Bd k kd (up g 108 15 0) f p := by
  obtain ⟨h1, h2, h3, ⟨u, u1, u2, u3⟩, h5, h6⟩ := h
  refine ⟨⟨fun q q1 _ => up_off q1, fun j _ _ _ _ _ j15 => by rw [up_at, if_neg j15]⟩, ?_, h2, ?_, ⟨u, u1, ?_, ?_⟩, ?_, ?_⟩
  · rw [up_at, if_neg (by decide)]; exact h1
  · rw [up_at, if_neg (by decide)]; exact h3
  · rw [up_at, if_neg (by decide)]; exact u2
  · rw [up_at, if_neg (by decide)]; exact u3
  · rw [up_at, if_neg (by decide)]; exact h5
  · rw [up_at, if_pos rfl]; exact Or.inl rfl
theorem c_readTotal {d : Nat} {dd : List (Nat × Nat)} {sh : Nat → Nat → Nat} {g : Nat → Nat → Int} {K : (Nat → Nat → Int) → Prop} {e m t cs : Nat} {it : Bool} (ih1 : Pone k kd vl sp pays m) (hT : TS k kd vl sp pays true g) (h : Gd k kd g t cs it) (hcs : cs ≤ t) (h29 : kd t = 29) (hK : ∀ g' r, OneR kd vl pays (m + 1) it t r → Aft k kd sp g g' it cs r → K g') : cV (e + 2 * m + 4) m_X6_readTotal [(vR 108), (vI (8 - ((m + 1 : Nat) : Int)))] dd sh g K := by
  have hk := hT.2.2.2.2.2.1
  have hk3 := hT.2.1
  have htk := hk t (by omega)
  refine mkV (ls := [some (vR 108), some (vI (8 - ((m + 1 : Nat) : Int)))]) rfl rfl rfl rfl rfl (r_X6_readTotal_0 ?_)
  rw [h.2.2.2.2.2]
  cases it with
  | true =>
    refine ⟨⟨by decide, by decide⟩, fun h => absurd h (by decide), fun _ => ?_⟩
    refine g_fail (d := e + 2 * m + 2) hT h (by omega) ⟨by decide, by decide⟩ fun g1 f1 hB => ?_
    exact hK g1 (.inl (7, t)) (Or.inr (Or.inl ⟨h29, rfl, rfl⟩)) ⟨f1, hB⟩
  | false =>
    refine ⟨⟨by decide, by decide⟩, fun _ => ?_, fun h => absurd rfl h⟩
    obtain ⟨f0, hG0, e0⟩ := h.up15 (it' := true) (x := 1) rfl
    refine g_goOn (d := e + 2 * m + 2) (hT.fr f0) hG0 htk fun g1 f1 e1 hG1 => ?_
    have f01 := f0.tr f1
    have bad : ∀ fa pa g2, RdF g g2 → Bd k kd g2 fa (sp pa) → OneR kd vl pays (m + 1) false t (.inl (fa, pa)) → cV (e + 2 * m + 3) m_X6_readOne [(vR 108), (vI ((8 - ((m + 1 : Nat) : Int)) + 1))] dd sh g2 (fun g12 => cV (e + 2 * m + 3) m_X6_put [(vR 108), (vI 8), (vI 0)] dd sh g12 (fun g14 => K (up g14 108 15 0))) := fun fa pa g2 f2 hB hr => by
      refine b_readOne (d := e + 2 * m + 2) hB (b_put (d := e + 2 * m + 2) hB ?_)
      obtain ⟨f3, hB3⟩ := hB.up15
      exact hK _ (.inl (fa, pa)) hr ⟨f2.tr f3, hB3⟩
    refine g_readNumber (d := e + 2 * m + 1) (hT.fr f01) hG1 (by omega) ⟨by decide, by decide⟩ ⟨by decide, by decide⟩ (fun k2 v1 v9 g2 f2 e2 hG2 => ?_) (fun k2 hor v g2 f2 hB => ?_) (fun n2 v g2 f2 hB => ?_)
    · have ht1 := hk (t + 1) (by omega)
      refine g_put (d := e + 2 * m + 2) hG2 (by decide) (fun _ => by omega) (fun h => absurd h (by decide)) (fun _ g3 f3 hG3 hr3 hv3 => ?_) (by omega)
      have f03 := f01.tr (f2.tr f3)
      refine g_pass (d := e + 2 * m + 1) (hT.fr f03) hG3 (by omega) ⟨by decide, by decide⟩ (fun k30 g4 f4 e4 hG4 => ?_) (fun n30 g4 f4 hB => ?_)
      · have ht2 := hk (t + 1 + 1) (by omega)
        have f04 := f03.tr f4
        rw [show (8 - ((m + 1 : Nat) : Int)) + 1 = 8 - (m : Int) by omega]
        refine ih1 (e := e) (hT.fr f04) hG4 (by omega) fun g5 r hr ha => ?_
        obtain ⟨f5, ha⟩ := ha
        cases r with
        | inl x =>
          obtain ⟨fa, pa⟩ := x
          have hB : Bd k kd g5 fa (sp pa) := ha
          refine b_put (d := e + 2 * m + 2) hB ?_
          obtain ⟨f6, hB6⟩ := hB.up15
          exact hK _ (.inl (fa, pa)) (Or.inr (Or.inr (Or.inr (Or.inr (Or.inr (Or.inl ⟨h29, rfl, k2, ⟨v1, v9⟩, k30, _, hr, rfl⟩)))))) ⟨f04.tr (f5.tr f6), hB6⟩
        | inr x =>
          obtain ⟨t', c⟩ := x
          obtain ⟨hG5, hlo5, hrw5⟩ := ha
          obtain ⟨o1, o2, o3, o4, o5⟩ := one_ok hk m true (t + 3) t' c (by omega) hr
          refine g_put (d := e + 2 * m + 2) hG5 (by decide) (fun _ => by omega) (fun h => absurd h (by decide)) (fun _ g6 f6 hG6 hr6 hv6 => ?_) (by omega)
          obtain ⟨f7, hG7, e7⟩ := hG6.up15 (it' := false) (x := 0) rfl
          have el : ((2, vl (t + 1)) :: (c ++ [((8 : Int), (0 : Int))])).length = c.length + 2 := by simp
          refine hK _ (.inr (t', (2, vl (t + 1)) :: (c ++ [(8, 0)]))) (Or.inr (Or.inr (Or.inr (Or.inr (Or.inr (Or.inl ⟨h29, rfl, k2, ⟨v1, v9⟩, k30, _, hr, rfl⟩)))))) ⟨f04.tr (f5.tr (f6.tr f7)), ?_, fun i hi => ?_, ?_⟩
          · rw [el, show cs + (c.length + 2) = cs + 1 + c.length + 1 by omega]; exact hG7
          · rw [e7, hr6 i (by omega), hlo5 i (by omega), e4, hr3 i (by omega), e2, e1, e0]
          · have r1 : Rws g3 cs [(2, vl (t + 1))] := fun i hi => by
              have : i = 0 := by simpa using hi
              subst this
              exact hv3
            have l1 : [((2 : Int), vl (t + 1))].length = 1 := rfl
            have r2 : Rws g5 cs ([(2, vl (t + 1))] ++ c) := r1.app (fun i hi => by rw [hlo5 i (by omega), e4]) (by rw [l1]; exact hrw5)
            have l2 : ([((2 : Int), vl (t + 1))] ++ c).length = 1 + c.length := by rw [List.length_append, l1]
            have r3 : Rws g6 cs ([(2, vl (t + 1))] ++ c ++ [(8, 0)]) := r2.app (fun i hi => hr6 i (by omega)) (fun i hi => by
              have : i = 0 := by simpa using hi
              subst this
              rw [l2, show cs + (1 + c.length) + 0 = cs + 1 + c.length by omega]
              exact hv6)
            have e9 : [((2 : Int), vl (t + 1))] ++ c ++ [((8 : Int), (0 : Int))] = (2, vl (t + 1)) :: (c ++ [(8, 0)]) := by simp
            rw [e9] at r3
            intro i hi
            rw [e7]
            exact r3 i hi
      · exact bad 1 (t + 2) g4 (f03.tr f4) hB (Or.inr (Or.inr (Or.inr (Or.inr (Or.inl ⟨h29, rfl, k2, ⟨v1, v9⟩, n30, rfl⟩)))))
    · refine b_put (d := e + 2 * m + 2) hB (b_pass (d := e + 2 * m + 1) hB ?_)
      exact bad 2 (t + 1) g2 (f01.tr f2) hB (Or.inr (Or.inr (Or.inr (Or.inl ⟨h29, rfl, k2, by omega, rfl⟩))))
    · refine b_put (d := e + 2 * m + 2) hB (b_pass (d := e + 2 * m + 1) hB ?_)
      exact bad 1 (t + 1) g2 (f01.tr f2) hB (Or.inr (Or.inr (Or.inl ⟨h29, rfl, n2, rfl⟩)))
theorem c_readOne : ∀ m, m ≤ 8 → Pone k kd vl sp pays m := by
  intro m
  induction m with
  | zero =>
    intro _ e dd sh g K t cs it hT h hcs hK
    refine c_readOne0 (d := e) hT h hcs (fun g' r hl ha => hK g' r (Or.inl hl) ha) fun ho => ?_
    refine r_X6_readOne_98 ⟨⟨by decide, by decide⟩, fun h => absurd h (by decide), fun _ => ?_⟩
    refine g_fail (d := e + 1) hT h (by have := hT.2.1; have := h.2.2.1; omega) ⟨by decide, by decide⟩ fun g1 f1 hB => r_X6_readOne_175 ?_
    exact hK g1 (.inl (3, t)) (Or.inr ⟨ho, rfl⟩) ⟨f1, hB⟩
  | succ m ih =>
    intro hm e dd sh g K t cs it hT h hcs hK
    have ihm : Pone k kd vl sp pays m := ih (by omega)
    have hk := hT.2.2.2.2.2.1
    have hk3 := hT.2.1
    have htt := h.2.2.1
    refine c_readOne0 (d := e + 2 * m + 2) hT h hcs (fun g' r hl ha => hK g' r (Or.inl hl) ha) fun ho => ?_
    have hk32 := hT.2.2.2.2.1 t
    have htk := hk t (by omega)
    refine r_X6_readOne_98 ?_
    rw [h.2.2.2.1]
    refine ⟨⟨by omega, by omega⟩, fun _ => ⟨⟨by omega, by omega⟩, fun n29 => ⟨fun n4 => ?_, fun e4 => ?_⟩, fun e29 => ?_⟩, fun h => absurd h (by omega)⟩
    · have e7 : kd t = 7 := by omega
      refine g_goOn (d := e + 2 * m + 3) hT h htk fun g1 f1 e1 hG1 => ?_
      rw [show (8 - ((m + 1 : Nat) : Int)) + 1 = 8 - (m : Int) by omega]
      refine c_readSum (d := 0) (e := e) ihm (hT.fr f1) hG1 (by omega) fun g2 r hr ha => ?_
      obtain ⟨f2, ha⟩ := ha
      cases r with
      | inl x =>
        obtain ⟨fa, pa⟩ := x
        have hB : Bd k kd g2 fa (sp pa) := ha
        refine b_pass (d := e + 2 * m + 2) hB (r_X6_readOne_175 ?_)
        exact hK g2 (.inl (fa, pa)) (Or.inr (Or.inr (Or.inr (Or.inr (Or.inr (Or.inr (Or.inr ⟨e7, _, hr, rfl⟩))))))) ⟨f1.tr f2, hB⟩
      | inr x =>
        obtain ⟨t', c⟩ := x
        obtain ⟨hG2, hlo2, hrw2⟩ := ha
        obtain ⟨⟨w, w1, w2⟩, s1, s2, s3, s4⟩ := sum_ok hk (fun t t' c hh h => one_ok hk m it t t' c hh h) 300 (t + 1) [] (-1) (-1) t' c (by omega) (fun x hx => absurd hx (by simp)) hr
        have lm := (dd1_len (-1)).2.1 rfl
        have lc : ([] : List (Int × Int)).length = 0 := rfl
        refine g_pass (d := e + 2 * m + 2) (hT.fr (f1.tr f2)) hG2 (by omega) ⟨by decide, by decide⟩ (fun k8 g3 f3 e3 hG3 => r_X6_readOne_175 ?_) (fun n8 g3 f3 hB => r_X6_readOne_175 ?_)
        · refine hK g3 (.inr (t' + 1, c)) (Or.inr (Or.inr (Or.inr (Or.inr (Or.inr (Or.inr (Or.inr ⟨e7, _, hr, ?_⟩))))))) ⟨f1.tr (f2.tr f3), hG3, fun i hi => by rw [e3, hlo2 i hi, e1], fun i hi => by rw [e3]; exact hrw2 i hi⟩
          unfold clo
          simp only [k8, if_true]
        · refine hK g3 (.inl (1, t')) (Or.inr (Or.inr (Or.inr (Or.inr (Or.inr (Or.inr (Or.inr ⟨e7, _, hr, ?_⟩))))))) ⟨f1.tr (f2.tr f3), hB⟩
          unfold clo
          simp only [n8, if_false]
    · refine g_goOn (d := e + 2 * m + 3) hT h htk fun g1 f1 e1 hG1 => ?_
      rw [show (8 - ((m + 1 : Nat) : Int)) + 1 = 8 - (m : Int) by omega]
      have hh2 : cV (e + 2 * m + 4) m_X6_readOne [(vR 108), (vI (8 - (m : Int)))] dd sh g1 (fun g15 => cV (e + 2 * m + 4) m_X6_put [(vR 108), (vI 6), (vI 0)] dd sh g15 (fun g17 => rV (e + 2 * m + 4) m_X6_readOne 175 [none, none] [] dd sh g17 K)) := by
        have hD : e + 2 * m + 4 = (e + 1) + 2 * m + 3 := by omega
        rw [hD]
        refine ihm (e := e + 1) (hT.fr f1) hG1 (by omega) fun g2 r hr ha => ?_
        obtain ⟨f2, ha⟩ := ha
        rw [← hD]
        cases r with
        | inl x =>
          obtain ⟨fa, pa⟩ := x
          have hB : Bd k kd g2 fa (sp pa) := ha
          refine b_put (d := e + 2 * m + 3) hB (r_X6_readOne_175 ?_)
          exact hK g2 (.inl (fa, pa)) (Or.inr (Or.inr (Or.inr (Or.inr (Or.inr (Or.inr (Or.inl ⟨e4, _, hr, rfl⟩))))))) ⟨f1.tr f2, hB⟩
        | inr x =>
          obtain ⟨t', c⟩ := x
          obtain ⟨hG2, hlo2, hrw2⟩ := ha
          obtain ⟨o1, o2, o3, o4, o5⟩ := one_ok hk m it (t + 1) t' c (by omega) hr
          refine g_put (d := e + 2 * m + 3) hG2 (by decide) (fun _ => by omega) (fun h => absurd h (by decide)) (fun _ g3 f3 hG3 hr3 hv3 => r_X6_readOne_175 ?_) (by omega)
          have el : (c ++ [((3 : Int), (0 : Int))]).length = c.length + 1 := by simp
          refine hK g3 (.inr (t', c ++ [(3, 0)])) (Or.inr (Or.inr (Or.inr (Or.inr (Or.inr (Or.inr (Or.inl ⟨e4, _, hr, rfl⟩))))))) ⟨f1.tr (f2.tr f3), ?_, fun i hi => by rw [hr3 i (by omega), hlo2 i hi, e1], ?_⟩
          · rw [el, show cs + (c.length + 1) = cs + c.length + 1 by omega]; exact hG3
          · have r2 : Rws g2 cs c := hrw2
            exact r2.app (fun i hi => hr3 i (by omega)) (fun i hi => by
              have : i = 0 := by simpa using hi
              subst this
              exact hv3)
      exact hh2
    · refine c_readTotal (d := 0) (e := e) ihm hT h hcs e29 fun g1 r hr ha => r_X6_readOne_175 (hK g1 r hr ha)
end RD2
