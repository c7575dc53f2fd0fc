-- clauses: what is said, the class's
abbrev CRes := (Int × Nat) ⊕ (Nat × Nat × Int × Int × List (Int × Int))
def Fig (kd vl : Nat → Int) (lo hi : Int) (t : Nat) (f : Int) : Prop := (kd t ≠ 2 ∧ f = 1) ∨ (kd t = 2 ∧ (vl t < lo ∨ hi < vl t) ∧ f = 2) ∨ (kd t = 2 ∧ lo ≤ vl t ∧ vl t ≤ hi ∧ f = 0)
def mx1 (w : Nat) : Int := if w = 9 then 5 else 9
def btw (w : Nat) : Int := if w = 5 then 32 else 31
def lo2 (w : Nat) : Int := if w = 5 then 1 else 0
def hi2 (w : Nat) : Int := if w = 5 then 9 else 39
def lo1 (w : Nat) : Int := if w = 10 then 1 else 0
def hi1 (w : Nat) : Int := if w = 10 then 60 else if w = 8 then 5 else 6
def TwoR (kd vl : Nat → Int) (w t : Nat) (r : CRes) : Prop :=
  (∃ f, Fig kd vl 0 (mx1 w) t f ∧ f ≠ 0 ∧ r = .inl (f, t)) ∨ (Fig kd vl 0 (mx1 w) t 0 ∧ kd (t + 1) ≠ btw w ∧ r = .inl (1, t + 1)) ∨
  (Fig kd vl 0 (mx1 w) t 0 ∧ kd (t + 1) = btw w ∧ ∃ f, Fig kd vl (lo2 w) (hi2 w) (t + 2) f ∧ f ≠ 0 ∧ r = .inl (f, t + 2)) ∨
  (Fig kd vl 0 (mx1 w) t 0 ∧ kd (t + 1) = btw w ∧ Fig kd vl (lo2 w) (hi2 w) (t + 2) 0 ∧ kd (t + 3) ≠ 9 ∧ r = .inl (1, t + 3)) ∨
  (Fig kd vl 0 (mx1 w) t 0 ∧ kd (t + 1) = btw w ∧ Fig kd vl (lo2 w) (hi2 w) (t + 2) 0 ∧ kd (t + 3) = 9 ∧ r = .inr (t + 4, w, vl t, vl (t + 2), []))
def OneN (kd vl : Nat → Int) (w t : Nat) (r : CRes) : Prop :=
  (∃ f, Fig kd vl (lo1 w) (hi1 w) t f ∧ f ≠ 0 ∧ r = .inl (f, t)) ∨ (Fig kd vl (lo1 w) (hi1 w) t 0 ∧ kd (t + 1) ≠ 9 ∧ r = .inl (1, t + 1)) ∨ (Fig kd vl (lo1 w) (hi1 w) t 0 ∧ kd (t + 1) = 9 ∧ r = .inr (t + 2, w, vl t, 0, []))
def LawR (kd vl : Nat → Int) (w t : Nat) (r : CRes) : Prop := ∃ r', SumR (OneR kd vl (w == 2) 8 false) kd 300 t [] (-1) (-1) r' ∧
  ((∃ e, r' = .inl e ∧ r = .inl e) ∨ ∃ t' C, r' = .inr (t', C) ∧ ((kd t' ≠ 9 ∧ r = .inl (1, t')) ∨ (kd t' = 9 ∧ r = .inr (t' + 1, w, 0, 0, C))))
def isTwo (w : Nat) : Prop := w = 3 ∨ w = 4 ∨ w = 5 ∨ w = 9
def ClauseR (kd vl : Nat → Int) (c : Nat) (ow : Nat → Prop) (t : Nat) (r : CRes) : Prop :=
  (¬ (10 ≤ kd t ∧ kd t ≤ 20) ∧ r = .inl (1, t)) ∨
  ∃ w : Nat, kd t = 10 + (w : Int) ∧ w ≤ 10 ∧
    ((w ≤ 2 ∧ ow w ∧ r = .inl (4, t)) ∨ (¬ (w ≤ 2 ∧ ow w) ∧ c = 24 ∧ r = .inl (6, t)) ∨
     (¬ (w ≤ 2 ∧ ow w) ∧ c < 24 ∧ ((w ≤ 2 ∧ LawR kd vl w (t + 1) r) ∨ (3 ≤ w ∧ isTwo w ∧ TwoR kd vl w (t + 1) r) ∨ (3 ≤ w ∧ ¬ isTwo w ∧ OneN kd vl w (t + 1) r))))
section CL
variable {k : Nat} {kd vl sp : Nat → Int} {pays lw : Bool}
theorem TS.off {g g' : Nat → Nat → Int} (h : TS k kd vl sp pays false g) (e : ∀ q, q < 108 → g' q = g q) : TS k kd vl sp pays false g' := by
  obtain ⟨h1, h2, h3, h4, h5, h6, h7, h8, h9⟩ := h
  refine ⟨by rw [e 102 (by decide)]; exact h1, h2, fun t ht => by rw [e 104 (by decide), e 105 (by decide)]; exact h3 t ht, fun t ht => by rw [e 107 (by decide)]; exact h4 t ht, h5, h6, h7, fun h => absurd h (by decide), fun h => absurd h (by decide)⟩
theorem TS.law {g : Nat → Nat → Int} (h : TS k kd vl sp pays lw g) {w : Nat} (hw : w ≤ 2) (e : g 108 14 = (w : Int)) : TS k kd vl sp (w == 2) true g := by
  obtain ⟨h1, h2, h3, h4, h5, h6, h7, h8, h9⟩ := h
  refine ⟨h1, h2, h3, h4, h5, h6, h7, fun _ => by omega, fun _ => ?_⟩
  rw [e, beq_iff_eq]; omega
theorem TS.weak {g : Nat → Nat → Int} (h : TS k kd vl sp pays lw g) {pays' : Bool} : TS k kd vl sp pays' false g := by
  obtain ⟨h1, h2, h3, h4, h5, h6, h7, h8, h9⟩ := h
  exact ⟨h1, h2, h3, h4, h5, h6, h7, fun h => absurd h (by decide), fun h => absurd h (by decide)⟩
theorem Gd.off {g g' : Nat → Nat → Int} {t cs : Nat} {it : Bool} (h : Gd k kd g t cs it) (e : ∀ j, j ≠ 6 → j ≠ 14 → g' 108 j = g 108 j) : Gd k kd g' t cs it := by
  obtain ⟨h1, h2, h3, h4, h5, h6⟩ := h
  exact ⟨by rw [e 5 (by decide) (by decide)]; exact h1, by rw [e 3 (by decide) (by decide)]; exact h2, h3, by rw [e 4 (by decide) (by decide)]; exact h4, by rw [e 10 (by decide) (by decide)]; exact h5, by rw [e 15 (by decide) (by decide)]; exact h6⟩
theorem Bd.off {g g' : Nat → Nat → Int} {f p : Int} (h : Bd k kd g f p) (e : ∀ j, j ≠ 6 → j ≠ 14 → g' 108 j = g 108 j) : Bd k kd g' f p := by
  obtain ⟨h1, h2, h3, ⟨u, u1, u2, u3⟩, h5, h6⟩ := h
  exact ⟨by rw [e 5 (by decide) (by decide)]; exact h1, h2, by rw [e 2 (by decide) (by decide)]; exact h3, ⟨u, u1, by rw [e 3 (by decide) (by decide)]; exact u2, by rw [e 4 (by decide) (by decide)]; exact u3⟩, by rw [e 10 (by decide) (by decide)]; exact h5, by rw [e 15 (by decide) (by decide)]; exact h6⟩
/-- behind a clause's numbers: the class's rows -/
def NF2 (c : Nat) (g g' : Nat → Nat → Int) : Prop := (∀ q, q < 108 ∨ 112 < q → g' q = g q) ∧ g' 109 = g 109 ∧ g' 112 = g 112 ∧ (∀ i, i ≠ c → g' 110 i = g 110 i ∧ g' 111 i = g 111 i) ∧ g' 108 6 = g 108 6
def NB2 (g g' : Nat → Nat → Int) : Prop := ∀ q, q < 108 ∨ 114 < q → g' q = g q
theorem RdF.nb {g g' : Nat → Nat → Int} (h : RdF g g') : NB2 g g' := fun q hq => h.1 q (by omega) (by omega)
theorem c_fig {d : Nat} {dd : List (Nat × Nat)} {sh : Nat → Nat → Nat} {g : Nat → Nat → Int} {K : Int → (Nat → Nat → Int) → Prop} {t cs : Nat} {lo hi : Int} (hT : TS k kd vl sp pays lw g) (h : Gd k kd g t cs false) (hcs : cs ≤ 300) (ha : 0 ≤ lo ∧ lo ≤ 100000) (hb : 0 ≤ hi ∧ hi ≤ 100000) (hok : Fig kd vl lo hi t 0 → ∀ g', RdF g g' → g' 112 = g 112 → Gd k kd g' (t + 1) cs false → K (vl t) g') (hbad : ∀ f, Fig kd vl lo hi t f → f ≠ 0 → ∀ v g', RdF g g' → Bd k kd g' f (sp t) → K v g') : cI (d + 2) m_X6_readNumber [(vR 108), (vI lo), (vI hi)] dd sh g K :=
  g_readNumber hT h hcs ha hb (fun h2 h3 h4 => hok (Or.inr (Or.inr ⟨h2, h3, h4, rfl⟩))) (fun h2 h3 => hbad 2 (Or.inr (Or.inl ⟨h2, h3, rfl⟩)) (by decide)) (fun h2 => hbad 1 (Or.inl ⟨h2, rfl⟩) (by decide))
theorem c_two {d : Nat} {dd : List (Nat × Nat)} {sh : Nat → Nat → Nat} {g : Nat → Nat → Int} {K : (Nat → Nat → Int) → Prop} {e0 t cs c w : Nat} {b : Int} (hT : TS k kd vl sp pays false g) (h : Gd k kd g t cs false) (hcs : cs ≤ 300) (h6 : g 108 6 = (c : Int)) (hc : c < 24) (hb : 10 + b = btw w) (hb2 : 0 ≤ b ∧ b ≤ 30) (hbad : ∀ f p, TwoR kd vl w t (.inl (f, p)) → ∀ g', NB2 g g' → Bd k kd g' f (sp p) → K g') (hok : ∀ t' v v2, TwoR kd vl w t (.inr (t', w, v, v2, [])) → ∀ g', NF2 c g g' → Gd k kd g' t' cs false → g' 110 c = v → g' 111 c = v2 → K g') : cV (d + 4) m_X6_readTwo [(vR 108), (vI (mx1 w)), (vI b), (vI (lo2 w)), (vI (hi2 w))] dd sh g (fun g16 => cV (e0 + 2) m_X6_pass [(vR 108), (vI 9)] dd sh g16 K) := by
  have hm : 0 ≤ mx1 w ∧ mx1 w ≤ 100000 := by unfold mx1; split <;> decide
  have hl2 : 0 ≤ lo2 w ∧ lo2 w ≤ 100000 := by unfold lo2; split <;> decide
  have hh2 : 0 ≤ hi2 w ∧ hi2 w ≤ 100000 := by unfold hi2; split <;> decide
  refine mkV (ls := [some (vR 108), some (vI (mx1 w)), some (vI b), some (vI (lo2 w)), some (vI (hi2 w))]) rfl rfl rfl rfl rfl (r_X6_readTwo_0 ?_)
  rw [h6, show ((c : Int)).toNat = c from rfl]
  refine c_fig (d := d + 1) hT h hcs (by decide) hm (fun hf g1 f1 e1 hG1 => ⟨by omega, by omega, ?_⟩) (fun f hf hne v g1 f1 hB => ⟨by omega, by omega, ?_⟩)
  · have hT2 : TS k kd vl sp pays false (up g1 110 c (vl t)) := (hT.fr f1).off fun q hq => up_off (by omega)
    have hG2 : Gd k kd (up g1 110 c (vl t)) (t + 1) cs false := hG1.off fun j _ _ => by rw [up_off (by decide)]
    have h62 : (up g1 110 c (vl t)) 108 6 = (c : Int) := by rw [up_off (by decide), f1.2 6 (by decide) (by decide) (by decide) (by decide) (by decide) (by decide)]; exact h6
    refine g_pass (d := d + 1) hT2 hG2 hcs (by omega) (fun hk1 g3 f3 e3 hG3 => ?_) (fun hk1 g3 f3 hB => ?_)
    · have h63 : g3 108 6 = (c : Int) := by rw [f3.2 6 (by decide) (by decide) (by decide) (by decide) (by decide) (by decide)]; exact h62
      refine c_fig (d := d + 1) (hT2.fr f3) hG3 hcs hl2 hh2 (fun hf2 g4 f4 e4 hG4 => ?_) (fun f hf2 hne v g4 f4 hB => ?_)
      · rw [h63, show ((c : Int)).toNat = c from rfl]
        refine ⟨by omega, by omega, ?_⟩
        have hT5 : TS k kd vl sp pays false (up g4 111 c (vl (t + 1 + 1))) := ((hT2.fr f3).fr f4).off fun q hq => up_off (by omega)
        have hG5 : Gd k kd (up g4 111 c (vl (t + 1 + 1))) (t + 1 + 1 + 1) cs false := hG4.off fun j _ _ => by rw [up_off (by decide)]
        have nf : ∀ q, q < 108 ∨ 112 < q → g4 q = g q := fun q hq => by rw [f4.1 q (by omega) (by omega), f3.1 q (by omega) (by omega), up_off (by omega), f1.1 q (by omega) (by omega)]
        refine g_pass (d := e0) hT5 hG5 hcs (by decide) (fun hk3 g6 f6 e6 hG6 => ?_) (fun hk3 g6 f6 hB => ?_)
        · refine hok (t + 4) (vl t) (vl (t + 2)) (Or.inr (Or.inr (Or.inr (Or.inr ⟨hf, by omega, hf2, hk3, rfl⟩)))) g6 ⟨fun q hq => by rw [f6.1 q (by omega) (by omega), up_off (by omega)]; exact nf q hq, ?_, ?_, fun i hi => ⟨?_, ?_⟩, ?_⟩ hG6 ?_ ?_
          · rw [f6.1 109 (by decide) (by decide), up_off (by decide), f4.1 109 (by decide) (by decide), f3.1 109 (by decide) (by decide), up_off (by decide), f1.1 109 (by decide) (by decide)]
          · rw [e6, up_off (by decide), e4, e3, up_off (by decide), e1]
          · rw [f6.1 110 (by decide) (by decide), up_off (by decide), f4.1 110 (by decide) (by decide), f3.1 110 (by decide) (by decide), up_at, if_neg hi, f1.1 110 (by decide) (by decide)]
          · rw [f6.1 111 (by decide) (by decide), up_at, if_neg hi, f4.1 111 (by decide) (by decide), f3.1 111 (by decide) (by decide), up_off (by decide), f1.1 111 (by decide) (by decide)]
          · rw [f6.2 6 (by decide) (by decide) (by decide) (by decide) (by decide) (by decide), up_off (by decide), f4.2 6 (by decide) (by decide) (by decide) (by decide) (by decide) (by decide), h63, h6]
          · rw [f6.1 110 (by decide) (by decide), up_off (by decide), f4.1 110 (by decide) (by decide), f3.1 110 (by decide) (by decide), up_at, if_pos rfl]
          · rw [f6.1 111 (by decide) (by decide), up_at, if_pos rfl]
        · refine hbad 1 (t + 3) (Or.inr (Or.inr (Or.inr (Or.inl ⟨hf, by omega, hf2, hk3, rfl⟩)))) g6 (fun q hq => ?_) hB
          rw [f6.1 q (by omega) (by omega), up_off (by omega), f4.1 q (by omega) (by omega), f3.1 q (by omega) (by omega), up_off (by omega), f1.1 q (by omega) (by omega)]
      · rw [h63, show ((c : Int)).toNat = c from rfl]
        refine ⟨by omega, by omega, ?_⟩
        have hB5 : Bd k kd (up g4 111 c v) f (sp (t + 1 + 1)) := hB.off fun j _ _ => by rw [up_off (by decide)]
        refine b_pass (d := e0) hB5 (hbad f (t + 2) (Or.inr (Or.inr (Or.inl ⟨hf, by omega, f, hf2, hne, rfl⟩))) _ (fun q hq => ?_) hB5)
        rw [up_off (by omega), f4.1 q (by omega) (by omega), f3.1 q (by omega) (by omega), up_off (by omega), f1.1 q (by omega) (by omega)]
    · have h63 : g3 108 6 = (c : Int) := by rw [f3.2 6 (by decide) (by decide) (by decide) (by decide) (by decide) (by decide)]; exact h62
      refine b_readNumber (d := d + 2) hB ?_
      rw [h63, show ((c : Int)).toNat = c from rfl]
      refine ⟨by omega, by omega, ?_⟩
      have hB5 : Bd k kd (up g3 111 c 0) 1 (sp (t + 1)) := hB.off fun j _ _ => by rw [up_off (by decide)]
      refine b_pass (d := e0) hB5 (hbad 1 (t + 1) (Or.inr (Or.inl ⟨hf, by omega, rfl⟩)) _ (fun q hq => ?_) hB5)
      rw [up_off (by omega), f3.1 q (by omega) (by omega), up_off (by omega), f1.1 q (by omega) (by omega)]
  · have hB2 : Bd k kd (up g1 110 c v) f (sp t) := hB.off fun j _ _ => by rw [up_off (by decide)]
    have h62 : (up g1 110 c v) 108 6 = (c : Int) := by rw [up_off (by decide), f1.2 6 (by decide) (by decide) (by decide) (by decide) (by decide) (by decide)]; exact h6
    refine b_pass (d := d + 1) hB2 (b_readNumber (d := d + 2) hB2 ?_)
    rw [h62, show ((c : Int)).toNat = c from rfl]
    refine ⟨by omega, by omega, ?_⟩
    have hB5 : Bd k kd (up (up g1 110 c v) 111 c 0) f (sp t) := hB2.off fun j _ _ => by rw [up_off (by decide)]
    refine b_pass (d := e0) hB5 (hbad f t (Or.inl ⟨f, hf, hne, rfl⟩) _ (fun q hq => ?_) hB5)
    rw [up_off (by omega), up_off (by omega), f1.1 q (by omega) (by omega)]
theorem c_one {d : Nat} {dd : List (Nat × Nat)} {sh : Nat → Nat → Nat} {g : Nat → Nat → Int} {K : (Nat → Nat → Int) → Prop} {e0 t cs c w : Nat} (hT : TS k kd vl sp pays false g) (h : Gd k kd g t cs false) (hcs : cs ≤ 300) (h6 : g 108 6 = (c : Int)) (hc : c < 24) (hbad : ∀ f p, OneN kd vl w t (.inl (f, p)) → ∀ g', NB2 g g' → Bd k kd g' f (sp p) → K g') (hok : ∀ t' v, OneN kd vl w t (.inr (t', w, v, 0, [])) → ∀ g', NF2 c g g' → Gd k kd g' t' cs false → g' 110 c = v → K g') : cI (d + 3) m_X6_readNumber [(vR 108), (vI (lo1 w)), (vI (hi1 w))] dd sh g (fun r3 g4 => (0 ≤ g 108 6) ∧ (g 108 6 < 24) ∧ cV (e0 + 2) m_X6_pass [(vR 108), (vI 9)] dd sh (up g4 110 ((g 108 6).toNat) r3) K) := by
  have hl : 0 ≤ lo1 w ∧ lo1 w ≤ 100000 := by unfold lo1; split <;> decide
  have hh : 0 ≤ hi1 w ∧ hi1 w ≤ 100000 := by unfold hi1; split <;> (try split) <;> decide
  rw [h6, show ((c : Int)).toNat = c from rfl]
  refine c_fig (d := d + 1) hT h hcs hl hh (fun hf g1 f1 e1 hG1 => ⟨by omega, by omega, ?_⟩) (fun f hf hne v g1 f1 hB => ⟨by omega, by omega, ?_⟩)
  · have hT2 : TS k kd vl sp pays false (up g1 110 c (vl t)) := (hT.fr f1).off fun q hq => up_off (by omega)
    have hG2 : Gd k kd (up g1 110 c (vl t)) (t + 1) cs false := hG1.off fun j _ _ => by rw [up_off (by decide)]
    refine g_pass (d := e0) hT2 hG2 hcs (by decide) (fun hk1 g3 f3 e3 hG3 => ?_) (fun hk1 g3 f3 hB => ?_)
    · refine hok (t + 2) (vl t) (Or.inr (Or.inr ⟨hf, hk1, rfl⟩)) g3 ⟨fun q hq => ?_, ?_, ?_, fun i hi => ⟨?_, ?_⟩, ?_⟩ hG3 ?_
      · rw [f3.1 q (by omega) (by omega), up_off (by omega), f1.1 q (by omega) (by omega)]
      · rw [f3.1 109 (by decide) (by decide), up_off (by decide), f1.1 109 (by decide) (by decide)]
      · rw [e3, up_off (by decide), e1]
      · rw [f3.1 110 (by decide) (by decide), up_at, if_neg hi, f1.1 110 (by decide) (by decide)]
      · rw [f3.1 111 (by decide) (by decide), up_off (by decide), f1.1 111 (by decide) (by decide)]
      · rw [f3.2 6 (by decide) (by decide) (by decide) (by decide) (by decide) (by decide), up_off (by decide), f1.2 6 (by decide) (by decide) (by decide) (by decide) (by decide) (by decide)]
      · rw [f3.1 110 (by decide) (by decide), up_at, if_pos rfl]
    · refine hbad 1 (t + 1) (Or.inr (Or.inl ⟨hf, hk1, rfl⟩)) g3 (fun q hq => ?_) hB
      rw [f3.1 q (by omega) (by omega), up_off (by omega), f1.1 q (by omega) (by omega)]
  · have hB2 : Bd k kd (up g1 110 c v) f (sp t) := hB.off fun j _ _ => by rw [up_off (by decide)]
    refine b_pass (d := e0) hB2 (hbad f t (Or.inl ⟨f, hf, hne, rfl⟩) _ (fun q hq => ?_) hB2)
    rw [up_off (by omega), f1.1 q (by omega) (by omega)]
end CL
