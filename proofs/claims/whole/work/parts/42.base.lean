-- frames; the small methods of both
/-- a class's call changes nothing of the image, the tape, the reader, the reference, the texts -/
def ClFr (g g' : Nat → Nat → Int) : Prop := ∀ q, (52 ≤ q ∧ q ≤ 103) ∨ q = 108 ∨ 134 ≤ q → g' q = g q
/-- a class's call that only asks: its own rows of work -/
def ClScr (g g' : Nat → Nat → Int) : Prop := ∀ q, q ≤ 115 ∨ 134 ≤ q → g' q = g q
/-- a reference's call: not the class, the image, the texts -/
def RefFr (g g' : Nat → Nat → Int) : Prop := (∀ q, q ≤ 133 ∨ (136 ≤ q ∧ q ≤ 138) ∨ 149 ≤ q → g' q = g q) ∧ (∀ k, (4 ≤ k ∧ k ≤ 6) ∨ k = 22 → g' 134 k = g 134 k)
def RefScr (g g' : Nat → Nat → Int) : Prop := (∀ q, q ≤ 133 ∨ (135 ≤ q ∧ q ≤ 138) ∨ 149 ≤ q → g' q = g q) ∧ (∀ k, (4 ≤ k ∧ k ≤ 6) ∨ k = 22 → g' 134 k = g 134 k)
theorem ClFr.rf {g : Nat → Nat → Int} : ClFr g g := fun _ _ => rfl
theorem ClScr.rf {g : Nat → Nat → Int} : ClScr g g := fun _ _ => rfl
theorem RefFr.rf {g : Nat → Nat → Int} : RefFr g g := ⟨fun _ _ => rfl, fun _ _ => rfl⟩
theorem RefScr.rf {g : Nat → Nat → Int} : RefScr g g := ⟨fun _ _ => rfl, fun _ _ => rfl⟩
theorem ClFr.tr {g g' g'' : Nat → Nat → Int} (h : ClFr g g') (h' : ClFr g' g'') : ClFr g g'' := fun q hq => by rw [h' q hq, h q hq]
theorem ClScr.tr {g g' g'' : Nat → Nat → Int} (h : ClScr g g') (h' : ClScr g' g'') : ClScr g g'' := fun q hq => by rw [h' q hq, h q hq]
theorem RefFr.tr {g g' g'' : Nat → Nat → Int} (h : RefFr g g') (h' : RefFr g' g'') : RefFr g g'' := ⟨fun q hq => by rw [h'.1 q hq, h.1 q hq], fun q hq => by rw [h'.2 q hq, h.2 q hq]⟩
theorem RefScr.tr {g g' g'' : Nat → Nat → Int} (h : RefScr g g') (h' : RefScr g' g'') : RefScr g g'' := ⟨fun q hq => by rw [h'.1 q hq, h.1 q hq], fun q hq => by rw [h'.2 q hq, h.2 q hq]⟩
theorem ClScr.fr {g g' : Nat → Nat → Int} (h : ClScr g g') : ClFr g g' := fun q hq => h q (by omega)
theorem RefScr.fr {g g' : Nat → Nat → Int} (h : RefScr g g') : RefFr g g' := ⟨fun q hq => h.1 q (by omega), h.2⟩
theorem ClScr.s {g g' : Nat → Nat → Int} {a : Nat → Int} (e : ClScr g g') (h : RSc g a) : RSc g' a := by
  unfold RSc
  rw [e 3 (by omega), e 4 (by omega), e 5 (by omega), e 6 (by omega), e 7 (by omega), e 8 (by omega), e 9 (by omega), e 10 (by omega)]; exact h
theorem RefFr.s {g g' : Nat → Nat → Int} {a : Nat → Int} (e : RefFr g g') (h : RSc g a) : RSc g' a := by
  unfold RSc
  rw [e.1 3 (by omega), e.1 4 (by omega), e.1 5 (by omega), e.1 6 (by omega), e.1 7 (by omega), e.1 8 (by omega), e.1 9 (by omega), e.1 10 (by omega)]; exact h
theorem RefFr.n {g g' : Nat → Nat → Int} {a : Nat → Int} (e : RefFr g g') (h : RNc g a) : RNc g' a := by
  unfold RNc
  rw [e.1 12 (by omega), e.1 13 (by omega), e.1 14 (by omega), e.1 16 (by omega), e.1 17 (by omega), e.1 18 (by omega), e.1 19 (by omega)]; exact h
theorem ClScr.n {g g' : Nat → Nat → Int} {a : Nat → Int} (e : ClScr g g') (h : RNc g a) : RNc g' a := by
  unfold RNc
  rw [e 12 (by omega), e 13 (by omega), e 14 (by omega), e 16 (by omega), e 17 (by omega), e 18 (by omega), e 19 (by omega)]; exact h
theorem RHrow {h : Nat → Int} {row row' : Nat → Nat → Int} {a : Nat → Int} (H : RH h row a) (e : ∀ k, k < 30 → row' k = row k) : RH h row' a := by
  have h4 := H.el
  refine ⟨H.st, H.el, H.tx, H.ru, fun j hj => ?_⟩
  rw [e _ (by omega)]; exact H.rt j hj
theorem RefFr.h {g g' : Nat → Nat → Int} {a : Nat → Int} (e : RefFr g g') (h : RHc g a) : RHc g' a := by
  unfold RHc
  rw [e.1 2 (by omega)]
  exact RHrow h fun k hk => e.1 (21 + k) (by omega)
theorem ClScr.h {g g' : Nat → Nat → Int} {a : Nat → Int} (e : ClScr g g') (h : RHc g a) : RHc g' a := by
  unfold RHc
  rw [e 2 (by omega)]
  exact RHrow h fun k hk => e (21 + k) (by omega)
theorem RXp.fr {tp by_ rd m mt m' : Nat → Int} (h : RXp tp by_ rd m mt) (e : ∀ k, (4 ≤ k ∧ k ≤ 6) ∨ k = 22 → m' k = m k) : RXp tp by_ rd m' mt := by
  unfold RXp at h ⊢
  rw [e 4 (by omega), e 5 (by omega), e 6 (by omega), e 22 (by omega)]; exact h
/-- a call that changes the house (not texts, tape, image) -/
theorem Inv.step {dd : List (Nat × Nat)} {sh : Nat → Nat → Nat} {g g1 g3 : Nat → Nat → Int} (hI : Inv dd sh g) (c : ClFr g g1) (r : RefFr g1 g3) (hS : RSc g1 (g3 135)) (hN : RNc g1 (g3 135)) (hH : RHc g1 (g3 135)) (e2 : g3 135 2 = g 135 2) : Inv dd sh g3 := by
  have o : ∀ q, (52 ≤ q ∧ q ≤ 103) ∨ q = 108 ∨ (136 ≤ q ∧ q ≤ 138) ∨ 149 ≤ q → g3 q = g q := fun q hq => by rw [r.1 q (by omega), c q (by omega)]
  have om : ∀ k, (4 ≤ k ∧ k ≤ 6) ∨ k = 22 → g3 134 k = g 134 k := fun k hk => by rw [r.2 k hk, c 134 (by omega)]
  refine ⟨r.s hS, r.n hN, r.h hH, ?_, ?_, ?_, ?_, ?_, ?_⟩
  · rw [o 137 (by omega)]
    exact hI.xt.fr e2 fun q hq => o q (by omega)
  · unfold RSi
    rw [o 53 (by omega), o 54 (by omega), o 55 (by omega), o 56 (by omega), o 57 (by omega), o 58 (by omega), o 59 (by omega), o 60 (by omega), o 136 (by omega)]; exact hI.si
  · unfold RNi
    rw [o 62 (by omega), o 63 (by omega), o 64 (by omega), o 66 (by omega), o 67 (by omega), o 68 (by omega), o 69 (by omega), o 136 (by omega)]; exact hI.ni
  · unfold RHi
    rw [o 52 (by omega), o 136 (by omega)]
    exact RHrow hI.hi fun k hk => o (71 + k) (by omega)
  · exact hI.xs.fr e2 (by rw [o 136 (by omega)])
  · unfold RXg
    rw [o 102 (by omega), o 103 (by omega), o 108 (by omega), o 138 (by omega)]
    exact hI.x.fr om
theorem Inv.scr {dd : List (Nat × Nat)} {sh : Nat → Nat → Nat} {g g1 g3 : Nat → Nat → Int} (hI : Inv dd sh g) (c : ClScr g g1) (r : RefScr g1 g3) : Inv dd sh g3 := by
  have e : g3 135 = g 135 := by rw [r.1 135 (by omega), c 135 (by omega)]
  exact hI.step c.fr r.fr (by rw [e]; exact c.s hI.s) (by rw [e]; exact c.n hI.nn) (by rw [e]; exact c.h hI.h) (by rw [e])
theorem s_get0 {d : Nat} {dd : List (Nat × Nat)} {sh : Nat → Nat → Nat} {g : Nat → Nat → Int} {K : Int → (Nat → Nat → Int) → Prop} {p : Nat} (hp : p < 6) (hK : K (g 135 (16 + 7 * p)) g) : cI (d + 1) m_X12_get [(vR 134), (vI (p : Int)), (vI 0)] dd sh g K := by
  refine mkI (ls := [some (vR 134), some (vI ((p : Int))), some (vI 0)]) rfl rfl rfl rfl rfl (r_X12_get_0 ?_)
  refine ⟨by omega, by omega, ?_⟩
  rw [show ((16 + (7 * (p : Int))) + 0).toNat = 16 + 7 * p by omega]
  exact hK
theorem s_put0 {d : Nat} {dd : List (Nat × Nat)} {sh : Nat → Nat → Nat} {g : Nat → Nat → Int} {K : (Nat → Nat → Int) → Prop} {p : Nat} {x : Int} (hp : p < 6) (hK : K (up g 135 (16 + 7 * p) x)) : cV (d + 1) m_X12_put [(vR 134), (vI (p : Int)), (vI 0), (vI x)] dd sh g K := by
  refine mkV (ls := [some (vR 134), some (vI ((p : Int))), some (vI 0), some (vI x)]) rfl rfl rfl rfl rfl (r_X12_put_0 ?_)
  refine ⟨by omega, by omega, ?_⟩
  rw [show ((16 + (7 * (p : Int))) + 0).toNat = 16 + 7 * p by omega]
  exact hK
theorem s_get1 {d : Nat} {dd : List (Nat × Nat)} {sh : Nat → Nat → Nat} {g : Nat → Nat → Int} {K : Int → (Nat → Nat → Int) → Prop} {p : Nat} (hp : p < 6) (hK : K (g 135 (17 + 7 * p)) g) : cI (d + 1) m_X12_get [(vR 134), (vI (p : Int)), (vI 1)] dd sh g K := by
  refine mkI (ls := [some (vR 134), some (vI ((p : Int))), some (vI 1)]) rfl rfl rfl rfl rfl (r_X12_get_0 ?_)
  refine ⟨by omega, by omega, ?_⟩
  rw [show ((16 + (7 * (p : Int))) + 1).toNat = 17 + 7 * p by omega]
  exact hK
theorem s_put1 {d : Nat} {dd : List (Nat × Nat)} {sh : Nat → Nat → Nat} {g : Nat → Nat → Int} {K : (Nat → Nat → Int) → Prop} {p : Nat} {x : Int} (hp : p < 6) (hK : K (up g 135 (17 + 7 * p) x)) : cV (d + 1) m_X12_put [(vR 134), (vI (p : Int)), (vI 1), (vI x)] dd sh g K := by
  refine mkV (ls := [some (vR 134), some (vI ((p : Int))), some (vI 1), some (vI x)]) rfl rfl rfl rfl rfl (r_X12_put_0 ?_)
  refine ⟨by omega, by omega, ?_⟩
  rw [show ((16 + (7 * (p : Int))) + 1).toNat = 17 + 7 * p by omega]
  exact hK
theorem s_get2 {d : Nat} {dd : List (Nat × Nat)} {sh : Nat → Nat → Nat} {g : Nat → Nat → Int} {K : Int → (Nat → Nat → Int) → Prop} {p : Nat} (hp : p < 6) (hK : K (g 135 (18 + 7 * p)) g) : cI (d + 1) m_X12_get [(vR 134), (vI (p : Int)), (vI 2)] dd sh g K := by
  refine mkI (ls := [some (vR 134), some (vI ((p : Int))), some (vI 2)]) rfl rfl rfl rfl rfl (r_X12_get_0 ?_)
  refine ⟨by omega, by omega, ?_⟩
  rw [show ((16 + (7 * (p : Int))) + 2).toNat = 18 + 7 * p by omega]
  exact hK
theorem s_put2 {d : Nat} {dd : List (Nat × Nat)} {sh : Nat → Nat → Nat} {g : Nat → Nat → Int} {K : (Nat → Nat → Int) → Prop} {p : Nat} {x : Int} (hp : p < 6) (hK : K (up g 135 (18 + 7 * p) x)) : cV (d + 1) m_X12_put [(vR 134), (vI (p : Int)), (vI 2), (vI x)] dd sh g K := by
  refine mkV (ls := [some (vR 134), some (vI ((p : Int))), some (vI 2), some (vI x)]) rfl rfl rfl rfl rfl (r_X12_put_0 ?_)
  refine ⟨by omega, by omega, ?_⟩
  rw [show ((16 + (7 * (p : Int))) + 2).toNat = 18 + 7 * p by omega]
  exact hK
theorem s_get3 {d : Nat} {dd : List (Nat × Nat)} {sh : Nat → Nat → Nat} {g : Nat → Nat → Int} {K : Int → (Nat → Nat → Int) → Prop} {p : Nat} (hp : p < 6) (hK : K (g 135 (19 + 7 * p)) g) : cI (d + 1) m_X12_get [(vR 134), (vI (p : Int)), (vI 3)] dd sh g K := by
  refine mkI (ls := [some (vR 134), some (vI ((p : Int))), some (vI 3)]) rfl rfl rfl rfl rfl (r_X12_get_0 ?_)
  refine ⟨by omega, by omega, ?_⟩
  rw [show ((16 + (7 * (p : Int))) + 3).toNat = 19 + 7 * p by omega]
  exact hK
theorem s_put3 {d : Nat} {dd : List (Nat × Nat)} {sh : Nat → Nat → Nat} {g : Nat → Nat → Int} {K : (Nat → Nat → Int) → Prop} {p : Nat} {x : Int} (hp : p < 6) (hK : K (up g 135 (19 + 7 * p) x)) : cV (d + 1) m_X12_put [(vR 134), (vI (p : Int)), (vI 3), (vI x)] dd sh g K := by
  refine mkV (ls := [some (vR 134), some (vI ((p : Int))), some (vI 3), some (vI x)]) rfl rfl rfl rfl rfl (r_X12_put_0 ?_)
  refine ⟨by omega, by omega, ?_⟩
  rw [show ((16 + (7 * (p : Int))) + 3).toNat = 19 + 7 * p by omega]
  exact hK
theorem s_get4 {d : Nat} {dd : List (Nat × Nat)} {sh : Nat → Nat → Nat} {g : Nat → Nat → Int} {K : Int → (Nat → Nat → Int) → Prop} {p : Nat} (hp : p < 6) (hK : K (g 135 (20 + 7 * p)) g) : cI (d + 1) m_X12_get [(vR 134), (vI (p : Int)), (vI 4)] dd sh g K := by
  refine mkI (ls := [some (vR 134), some (vI ((p : Int))), some (vI 4)]) rfl rfl rfl rfl rfl (r_X12_get_0 ?_)
  refine ⟨by omega, by omega, ?_⟩
  rw [show ((16 + (7 * (p : Int))) + 4).toNat = 20 + 7 * p by omega]
  exact hK
theorem s_put4 {d : Nat} {dd : List (Nat × Nat)} {sh : Nat → Nat → Nat} {g : Nat → Nat → Int} {K : (Nat → Nat → Int) → Prop} {p : Nat} {x : Int} (hp : p < 6) (hK : K (up g 135 (20 + 7 * p) x)) : cV (d + 1) m_X12_put [(vR 134), (vI (p : Int)), (vI 4), (vI x)] dd sh g K := by
  refine mkV (ls := [some (vR 134), some (vI ((p : Int))), some (vI 4), some (vI x)]) rfl rfl rfl rfl rfl (r_X12_put_0 ?_)
  refine ⟨by omega, by omega, ?_⟩
  rw [show ((16 + (7 * (p : Int))) + 4).toNat = 20 + 7 * p by omega]
  exact hK
theorem s_get5 {d : Nat} {dd : List (Nat × Nat)} {sh : Nat → Nat → Nat} {g : Nat → Nat → Int} {K : Int → (Nat → Nat → Int) → Prop} {p : Nat} (hp : p < 6) (hK : K (g 135 (21 + 7 * p)) g) : cI (d + 1) m_X12_get [(vR 134), (vI (p : Int)), (vI 5)] dd sh g K := by
  refine mkI (ls := [some (vR 134), some (vI ((p : Int))), some (vI 5)]) rfl rfl rfl rfl rfl (r_X12_get_0 ?_)
  refine ⟨by omega, by omega, ?_⟩
  rw [show ((16 + (7 * (p : Int))) + 5).toNat = 21 + 7 * p by omega]
  exact hK
theorem s_put5 {d : Nat} {dd : List (Nat × Nat)} {sh : Nat → Nat → Nat} {g : Nat → Nat → Int} {K : (Nat → Nat → Int) → Prop} {p : Nat} {x : Int} (hp : p < 6) (hK : K (up g 135 (21 + 7 * p) x)) : cV (d + 1) m_X12_put [(vR 134), (vI (p : Int)), (vI 5), (vI x)] dd sh g K := by
  refine mkV (ls := [some (vR 134), some (vI ((p : Int))), some (vI 5), some (vI x)]) rfl rfl rfl rfl rfl (r_X12_put_0 ?_)
  refine ⟨by omega, by omega, ?_⟩
  rw [show ((16 + (7 * (p : Int))) + 5).toNat = 21 + 7 * p by omega]
  exact hK
theorem s_get6 {d : Nat} {dd : List (Nat × Nat)} {sh : Nat → Nat → Nat} {g : Nat → Nat → Int} {K : Int → (Nat → Nat → Int) → Prop} {p : Nat} (hp : p < 6) (hK : K (g 135 (22 + 7 * p)) g) : cI (d + 1) m_X12_get [(vR 134), (vI (p : Int)), (vI 6)] dd sh g K := by
  refine mkI (ls := [some (vR 134), some (vI ((p : Int))), some (vI 6)]) rfl rfl rfl rfl rfl (r_X12_get_0 ?_)
  refine ⟨by omega, by omega, ?_⟩
  rw [show ((16 + (7 * (p : Int))) + 6).toNat = 22 + 7 * p by omega]
  exact hK
theorem s_put6 {d : Nat} {dd : List (Nat × Nat)} {sh : Nat → Nat → Nat} {g : Nat → Nat → Int} {K : (Nat → Nat → Int) → Prop} {p : Nat} {x : Int} (hp : p < 6) (hK : K (up g 135 (22 + 7 * p) x)) : cV (d + 1) m_X12_put [(vR 134), (vI (p : Int)), (vI 6), (vI x)] dd sh g K := by
  refine mkV (ls := [some (vR 134), some (vI ((p : Int))), some (vI 6), some (vI x)]) rfl rfl rfl rfl rfl (r_X12_put_0 ?_)
  refine ⟨by omega, by omega, ?_⟩
  rw [show ((16 + (7 * (p : Int))) + 6).toNat = 22 + 7 * p by omega]
  exact hK
theorem s_of0 {d : Nat} {dd : List (Nat × Nat)} {sh : Nat → Nat → Nat} {g : Nat → Nat → Int} {K : Int → (Nat → Nat → Int) → Prop} {c : Nat} (hp : c < 7) (hK : K (g 135 (58 + 4 * c)) g) : cI (d + 1) m_X12_of [(vR 134), (vI (c : Int)), (vI 0)] dd sh g K := by
  refine mkI (ls := [some (vR 134), some (vI ((c : Int))), some (vI 0)]) rfl rfl rfl rfl rfl (r_X12_of_0 ?_)
  refine ⟨by omega, by omega, ?_⟩
  rw [show ((58 + (4 * (c : Int))) + 0).toNat = 58 + 4 * c by omega]
  exact hK
theorem s_lay0 {d : Nat} {dd : List (Nat × Nat)} {sh : Nat → Nat → Nat} {g : Nat → Nat → Int} {K : (Nat → Nat → Int) → Prop} {c : Nat} {x : Int} (hp : c < 7) (hK : K (up g 135 (58 + 4 * c) x)) : cV (d + 1) m_X12_lay [(vR 134), (vI (c : Int)), (vI 0), (vI x)] dd sh g K := by
  refine mkV (ls := [some (vR 134), some (vI ((c : Int))), some (vI 0), some (vI x)]) rfl rfl rfl rfl rfl (r_X12_lay_0 ?_)
  refine ⟨by omega, by omega, ?_⟩
  rw [show ((58 + (4 * (c : Int))) + 0).toNat = 58 + 4 * c by omega]
  exact hK
theorem s_of1 {d : Nat} {dd : List (Nat × Nat)} {sh : Nat → Nat → Nat} {g : Nat → Nat → Int} {K : Int → (Nat → Nat → Int) → Prop} {c : Nat} (hp : c < 7) (hK : K (g 135 (59 + 4 * c)) g) : cI (d + 1) m_X12_of [(vR 134), (vI (c : Int)), (vI 1)] dd sh g K := by
  refine mkI (ls := [some (vR 134), some (vI ((c : Int))), some (vI 1)]) rfl rfl rfl rfl rfl (r_X12_of_0 ?_)
  refine ⟨by omega, by omega, ?_⟩
  rw [show ((58 + (4 * (c : Int))) + 1).toNat = 59 + 4 * c by omega]
  exact hK
theorem s_lay1 {d : Nat} {dd : List (Nat × Nat)} {sh : Nat → Nat → Nat} {g : Nat → Nat → Int} {K : (Nat → Nat → Int) → Prop} {c : Nat} {x : Int} (hp : c < 7) (hK : K (up g 135 (59 + 4 * c) x)) : cV (d + 1) m_X12_lay [(vR 134), (vI (c : Int)), (vI 1), (vI x)] dd sh g K := by
  refine mkV (ls := [some (vR 134), some (vI ((c : Int))), some (vI 1), some (vI x)]) rfl rfl rfl rfl rfl (r_X12_lay_0 ?_)
  refine ⟨by omega, by omega, ?_⟩
  rw [show ((58 + (4 * (c : Int))) + 1).toNat = 59 + 4 * c by omega]
  exact hK
theorem s_of2 {d : Nat} {dd : List (Nat × Nat)} {sh : Nat → Nat → Nat} {g : Nat → Nat → Int} {K : Int → (Nat → Nat → Int) → Prop} {c : Nat} (hp : c < 7) (hK : K (g 135 (60 + 4 * c)) g) : cI (d + 1) m_X12_of [(vR 134), (vI (c : Int)), (vI 2)] dd sh g K := by
  refine mkI (ls := [some (vR 134), some (vI ((c : Int))), some (vI 2)]) rfl rfl rfl rfl rfl (r_X12_of_0 ?_)
  refine ⟨by omega, by omega, ?_⟩
  rw [show ((58 + (4 * (c : Int))) + 2).toNat = 60 + 4 * c by omega]
  exact hK
theorem s_lay2 {d : Nat} {dd : List (Nat × Nat)} {sh : Nat → Nat → Nat} {g : Nat → Nat → Int} {K : (Nat → Nat → Int) → Prop} {c : Nat} {x : Int} (hp : c < 7) (hK : K (up g 135 (60 + 4 * c) x)) : cV (d + 1) m_X12_lay [(vR 134), (vI (c : Int)), (vI 2), (vI x)] dd sh g K := by
  refine mkV (ls := [some (vR 134), some (vI ((c : Int))), some (vI 2), some (vI x)]) rfl rfl rfl rfl rfl (r_X12_lay_0 ?_)
  refine ⟨by omega, by omega, ?_⟩
  rw [show ((58 + (4 * (c : Int))) + 2).toNat = 60 + 4 * c by omega]
  exact hK
theorem s_of3 {d : Nat} {dd : List (Nat × Nat)} {sh : Nat → Nat → Nat} {g : Nat → Nat → Int} {K : Int → (Nat → Nat → Int) → Prop} {c : Nat} (hp : c < 7) (hK : K (g 135 (61 + 4 * c)) g) : cI (d + 1) m_X12_of [(vR 134), (vI (c : Int)), (vI 3)] dd sh g K := by
  refine mkI (ls := [some (vR 134), some (vI ((c : Int))), some (vI 3)]) rfl rfl rfl rfl rfl (r_X12_of_0 ?_)
  refine ⟨by omega, by omega, ?_⟩
  rw [show ((58 + (4 * (c : Int))) + 3).toNat = 61 + 4 * c by omega]
  exact hK
theorem s_lay3 {d : Nat} {dd : List (Nat × Nat)} {sh : Nat → Nat → Nat} {g : Nat → Nat → Int} {K : (Nat → Nat → Int) → Prop} {c : Nat} {x : Int} (hp : c < 7) (hK : K (up g 135 (61 + 4 * c) x)) : cV (d + 1) m_X12_lay [(vR 134), (vI (c : Int)), (vI 3), (vI x)] dd sh g K := by
  refine mkV (ls := [some (vR 134), some (vI ((c : Int))), some (vI 3), some (vI x)]) rfl rfl rfl rfl rfl (r_X12_lay_0 ?_)
  refine ⟨by omega, by omega, ?_⟩
  rw [show ((58 + (4 * (c : Int))) + 3).toNat = 61 + 4 * c by omega]
  exact hK
theorem s_X12_isSuspect {d : Nat} {dd : List (Nat × Nat)} {sh : Nat → Nat → Nat} {g : Nat → Nat → Int} {K : Int → (Nat → Nat → Int) → Prop} {v1 : Int} (hA : 0 ≤ g 135 0 ∧ g 135 0 ≤ 6) (h : i32 v1) (hK : 0 ≤ v1 → v1 < g 135 0 → K 1 g) (hK0 : v1 < 0 ∨ g 135 0 ≤ v1 → K 0 g) : cI (d + 2) m_X12_isSuspect [(vR 134), (vI v1)] dd sh g K := by
  refine mkI (ls := [some (vR 134), some (vI v1)]) rfl rfl rfl rfl rfl (r_X12_isSuspect_0 ?_)
  refine s_X12_isIn (by omega) (by omega) (by omega) (fun h1 h2 => ?_) (fun h1 => ?_)
  · repeat' (first
      | (refine imp_mk ?_; intro hh; first | contradiction | (exfalso; omega) | skip)
      | (exact hK (by omega) (by omega))
      | refine And.intro ?_ ?_
      | omega)
  · repeat' (first
      | (refine imp_mk ?_; intro hh; first | contradiction | (exfalso; omega) | skip)
      | (exact hK0 (by omega))
      | refine And.intro ?_ ?_
      | omega)
theorem s_X12_isScene {d : Nat} {dd : List (Nat × Nat)} {sh : Nat → Nat → Nat} {g : Nat → Nat → Int} {K : Int → (Nat → Nat → Int) → Prop} {v1 : Int} (hA : 0 ≤ g 135 1 ∧ g 135 1 ≤ 7) (h : i32 v1) (hK : 0 ≤ v1 → v1 < g 135 1 → K 1 g) (hK0 : v1 < 0 ∨ g 135 1 ≤ v1 → K 0 g) : cI (d + 2) m_X12_isScene [(vR 134), (vI v1)] dd sh g K := by
  refine mkI (ls := [some (vR 134), some (vI v1)]) rfl rfl rfl rfl rfl (r_X12_isScene_0 ?_)
  refine s_X12_isIn (by omega) (by omega) (by omega) (fun h1 h2 => ?_) (fun h1 => ?_)
  · repeat' (first
      | (refine imp_mk ?_; intro hh; first | contradiction | (exfalso; omega) | skip)
      | (exact hK (by omega) (by omega))
      | refine And.intro ?_ ?_
      | omega)
  · repeat' (first
      | (refine imp_mk ?_; intro hh; first | contradiction | (exfalso; omega) | skip)
      | (exact hK0 (by omega))
      | refine And.intro ?_ ?_
      | omega)
theorem s_X7_hasSuspect {d : Nat} {dd : List (Nat × Nat)} {sh : Nat → Nat → Nat} {g : Nat → Nat → Int} {K : Int → (Nat → Nat → Int) → Prop} {v1 : Int} {a : Nat → Int} (hS : RSc g a) (h : i32 v1) (hK : 0 ≤ v1 → v1 < a 0 → K 1 g) (hK0 : v1 < 0 ∨ a 0 ≤ v1 → K 0 g) : cI (d + 1) m_X7_hasSuspect [(vR 3), (vI v1)] dd sh g K := by
  refine mkI (ls := [some (vR 3), some (vI v1)]) rfl rfl rfl rfl rfl (r_X7_hasSuspect_0 ?_)
  have hn := hS.n
  repeat' (first
    | (refine imp_mk ?_; intro hh; first | contradiction | (exfalso; omega) | skip)
    | (exact hK (by omega) (by omega))
    | (exact hK0 (by omega))
    | refine And.intro ?_ ?_
    | omega)
theorem s_X7_hasScene {d : Nat} {dd : List (Nat × Nat)} {sh : Nat → Nat → Nat} {g : Nat → Nat → Int} {K : Int → (Nat → Nat → Int) → Prop} {v1 : Int} {a : Nat → Int} (hS : RSc g a) (h : i32 v1) (hK : 0 ≤ v1 → v1 < a 1 → K 1 g) (hK0 : v1 < 0 ∨ a 1 ≤ v1 → K 0 g) : cI (d + 1) m_X7_hasScene [(vR 3), (vI v1)] dd sh g K := by
  refine mkI (ls := [some (vR 3), some (vI v1)]) rfl rfl rfl rfl rfl (r_X7_hasScene_0 ?_)
  have hn := hS.m
  repeat' (first
    | (refine imp_mk ?_; intro hh; first | contradiction | (exfalso; omega) | skip)
    | (exact hK (by omega) (by omega))
    | (exact hK0 (by omega))
    | refine And.intro ?_ ?_
    | omega)
theorem s_X7_hasBoth {d : Nat} {dd : List (Nat × Nat)} {sh : Nat → Nat → Nat} {g : Nat → Nat → Int} {K : Int → (Nat → Nat → Int) → Prop} {v1 v2 : Int} {a : Nat → Int} (hS : RSc g a) (h : i32 v1) (h2 : i32 v2) (hK : 0 ≤ v1 → v1 < a 0 → 0 ≤ v2 → v2 < a 1 → K 1 g) (hK0 : v1 < 0 ∨ a 0 ≤ v1 ∨ v2 < 0 ∨ a 1 ≤ v2 → K 0 g) : cI (d + 2) m_X7_hasBoth [(vR 3), (vI v1), (vI v2)] dd sh g K := by
  refine mkI (ls := [some (vR 3), some (vI v1), some (vI v2)]) rfl rfl rfl rfl rfl (r_X7_hasBoth_0 ?_)
  refine s_X7_hasSuspect hS h (fun h3 h4 => ?_) (fun h3 => ?_)
  · repeat' (first
      | (refine imp_mk ?_; intro hh; first | contradiction | (exfalso; omega) | skip)
      | (refine s_X7_hasScene hS h2 (fun h5 h6 => ?_) (fun h5 => ?_))
      | (exact hK (by omega) (by omega) (by omega) (by omega))
      | (exact hK0 (by omega))
      | refine And.intro ?_ ?_
      | omega)
  · repeat' (first
      | (refine imp_mk ?_; intro hh; first | contradiction | (exfalso; omega) | skip)
      | (exact hK0 (by omega))
      | refine And.intro ?_ ?_
      | omega)
theorem s_X7_isGuilty {d : Nat} {dd : List (Nat × Nat)} {sh : Nat → Nat → Nat} {g : Nat → Nat → Int} {K : Int → (Nat → Nat → Int) → Prop} {p : Nat} {a : Nat → Int} (hS : RSc g a) (hp : p < 6) (hq : (p : Int) < a 0) (hK : ∀ r, r = a (16 + 7 * p) → 0 ≤ r → r ≤ 1 → K r g) : cI (d + 2) m_X7_isGuilty [(vR 3), (vI (p : Int))] dd sh g K := by
  refine mkI (ls := [some (vR 3), some (vI ((p : Int)))]) rfl rfl rfl rfl rfl (r_X7_isGuilty_0 ?_)
  have hb := hS.bits
  have hpp := hS.pp p hp hq
  refine s_X11_hasBit (by omega) (by omega) (by omega) (by omega) fun r h1 h2 h3 => ⟨by omega, hK r ?_ h2 h3⟩
  rw [h1]; exact hpp.1
theorem s_X7_comes {d : Nat} {dd : List (Nat × Nat)} {sh : Nat → Nat → Nat} {g : Nat → Nat → Int} {K : Int → (Nat → Nat → Int) → Prop} {p : Nat} {a : Nat → Int} (hS : RSc g a) (hp : p < 6) (hq : (p : Int) < a 0) (hK : ∀ r, r = a (20 + 7 * p) → 0 ≤ r → r ≤ 1 → K r g) : cI (d + 2) m_X7_comes [(vR 3), (vI (p : Int))] dd sh g K := by
  refine mkI (ls := [some (vR 3), some (vI ((p : Int)))]) rfl rfl rfl rfl rfl (r_X7_comes_0 ?_)
  have hb := hS.bits
  have hpp := (hS.pp p hp hq).2.2.2.2.1
  have h9 : bt (g 3 2) ((p : Int)).toNat = 1 - a (20 + 7 * p) := hpp
  refine s_X11_hasBit (by omega) (by omega) (by omega) (by omega) fun r h1 h2 h3 => ?_
  repeat' (first
    | (refine imp_mk ?_; intro hh; first | contradiction | (exfalso; omega) | skip)
    | (exact hK _ (by omega) (by omega) (by omega))
    | refine And.intro ?_ ?_
    | omega)
theorem s_X7_isCut {d : Nat} {dd : List (Nat × Nat)} {sh : Nat → Nat → Nat} {g : Nat → Nat → Int} {K : Int → (Nat → Nat → Int) → Prop} {c : Nat} {a : Nat → Int} (hS : RSc g a) (hp : c < 7) (hq : (c : Int) < a 1) (hK : ∀ r, r = a (60 + 4 * c) → 0 ≤ r → r ≤ 1 → K r g) : cI (d + 2) m_X7_isCut [(vR 3), (vI (c : Int))] dd sh g K := by
  refine mkI (ls := [some (vR 3), some (vI ((c : Int)))]) rfl rfl rfl rfl rfl (r_X7_isCut_0 ?_)
  have hb := hS.bits
  have hpp := hS.cc c hp hq
  refine s_X11_hasBit (by omega) (by omega) (by omega) (by omega) fun r h1 h2 h3 => ⟨by omega, hK r ?_ h2 h3⟩
  rw [h1]; exact hpp.2.2.1
theorem s_X7_isEncored {d : Nat} {dd : List (Nat × Nat)} {sh : Nat → Nat → Nat} {g : Nat → Nat → Int} {K : Int → (Nat → Nat → Int) → Prop} {c : Nat} {a : Nat → Int} (hS : RSc g a) (hp : c < 7) (hq : (c : Int) < a 1) (hK : ∀ r, r = a (61 + 4 * c) → 0 ≤ r → r ≤ 1 → K r g) : cI (d + 2) m_X7_isEncored [(vR 3), (vI (c : Int))] dd sh g K := by
  refine mkI (ls := [some (vR 3), some (vI ((c : Int)))]) rfl rfl rfl rfl rfl (r_X7_isEncored_0 ?_)
  have hb := hS.bits
  have hpp := hS.cc c hp hq
  refine s_X11_hasBit (by omega) (by omega) (by omega) (by omega) fun r h1 h2 h3 => ⟨by omega, hK r ?_ h2 h3⟩
  rw [h1]; exact hpp.2.2.2
theorem s_X7_canEncore {d : Nat} {dd : List (Nat × Nat)} {sh : Nat → Nat → Nat} {g : Nat → Nat → Int} {K : Int → (Nat → Nat → Int) → Prop} {c : Nat} {a : Nat → Int} (hS : RSc g a) (hp : c < 7) (hq : (c : Int) < a 1) (hK : a (60 + 4 * c) = 0 → a (61 + 4 * c) = 0 → K 1 g) (hK0 : (a (60 + 4 * c) = 1 ∨ a (61 + 4 * c) = 1) → K 0 g) : cI (d + 3) m_X7_canEncore [(vR 3), (vI (c : Int))] dd sh g K := by
  refine mkI (ls := [some (vR 3), some (vI ((c : Int)))]) rfl rfl rfl rfl rfl (r_X7_canEncore_0 ?_)
  refine s_X7_hasScene hS (by omega) (fun h3 h4 => ?_) (fun h3 => absurd h3 (by omega))
  repeat' (first
    | (refine imp_mk ?_; intro hh; first | contradiction | (exfalso; omega) | skip)
    | (refine s_X7_isCut hS hp hq (fun r h5 h6 h7 => ?_))
    | (refine s_X7_isEncored hS hp hq (fun r h8 h9 h10 => ?_))
    | (exact hK (by omega) (by omega))
    | (exact hK0 (by omega))
    | refine And.intro ?_ ?_
    | omega)
theorem s_X7_timesGiven {d : Nat} {dd : List (Nat × Nat)} {sh : Nat → Nat → Nat} {g : Nat → Nat → Int} {K : Int → (Nat → Nat → Int) → Prop} {c : Nat} {a : Nat → Int} (hS : RSc g a) (hp : c < 7) (hq : (c : Int) < a 1) (hK : ∀ r, 0 ≤ r → r ≤ 2 → (a (60 + 4 * c) = 1 → r = 0) → (a (60 + 4 * c) = 0 → r = 1 + a (61 + 4 * c)) → K r g) : cI (d + 3) m_X7_timesGiven [(vR 3), (vI (c : Int))] dd sh g K := by
  refine mkI (ls := [some (vR 3), some (vI ((c : Int)))]) rfl rfl rfl rfl rfl (r_X7_timesGiven_0 ?_)
  refine s_X7_isCut hS hp hq (fun r h5 h6 h7 => ?_)
  repeat' (first
    | (refine imp_mk ?_; intro hh; first | contradiction | (exfalso; omega) | skip)
    | (refine s_X7_isEncored hS hp hq (fun r h8 h9 h10 => ?_))
    | (exact hK _ (by omega) (by omega) (by omega) (by omega))
    | refine And.intro ?_ ?_
    | omega)
/-- a seat of the house on which nobody is -/
def free (a : Nat → Int) (v : Int) : Prop := 0 ≤ v ∧ v < 40 ∧ ∀ p : Nat, p < 6 → (p : Int) < a 0 → a (18 + 7 * p) ≠ v
theorem s_X7_isFree {d : Nat} {dd : List (Nat × Nat)} {sh : Nat → Nat → Nat} {g : Nat → Nat → Int} {K : Int → (Nat → Nat → Int) → Prop} {v1 : Int} {a : Nat → Int} (hS : RSc g a) (h : i32 v1) (hK : free a v1 → K 1 g) (hK0 : ¬ free a v1 → K 0 g) : cI (d + 1) m_X7_isFree [(vR 3), (vI v1)] dd sh g K := by
  refine mkI (ls := [some (vR 3), some (vI v1), none]) rfl rfl rfl rfl rfl (r_X7_isFree_0 ?_)
  have hn := hS.n
  obtain ⟨n, hN⟩ := Int.eq_ofNat_of_zero_le hn.2.1
  have main : (0 ≤ v1 ∧ v1 < 40) → rI d m_X7_isFree 14 [some (vR 3), some (vI v1), some (vI 0)] [] dd sh g K := by
    intro hv
    refine loop (P := fun k => (∀ p : Nat, p < k → a (18 + 7 * p) ≠ v1) → rI d m_X7_isFree 14 [some (vR 3), some (vI v1), some (vI ((k : Int)))] [] dd sh g K) (n := n) ?_ ?_ 0 (by omega) (fun p hp => absurd hp (by omega))
    · intro hall
      have hf : free a v1 := ⟨hv.1, hv.2, fun p hp hq => hall p (by omega)⟩
      refine r_X7_isFree_14 ?_
      repeat' (first
        | (refine imp_mk ?_; intro hh; first | contradiction | (exfalso; omega) | skip)
        | (exact hK hf)
        | refine And.intro ?_ ?_
        | omega)
    · intro k hk ih hall
      have hpp := hS.pp k (by omega) (by omega)
      have hpb := hS.pb k (by omega)
      refine r_X7_isFree_14 ?_
      rw [show ((k : Int)).toNat = k from rfl]
      have e1 := hpp.2.2.1
      by_cases he : g 5 k = v1
      · have hf : ¬ free a v1 := fun hf => hf.2.2 k (by omega) (by omega) (by omega)
        repeat' (first
          | (refine imp_mk ?_; intro hh; first | contradiction | (exfalso; omega) | skip)
          | (exact hK0 hf)
          | refine And.intro ?_ ?_
          | omega)
      · have ih' := ih fun p hp => by
          by_cases hpk : p = k
          · rw [hpk]; omega
          · exact hall p (by omega)
        repeat' (first
          | (refine imp_mk ?_; intro hh; first | contradiction | (exfalso; omega) | skip)
          | (exact ih')
          | refine And.intro ?_ ?_
          | omega)
  have hout : ¬ (0 ≤ v1 ∧ v1 < 40) → K 0 g := fun hv => hK0 fun hf => hv ⟨hf.1, hf.2.1⟩
  repeat' (first
    | (refine imp_mk ?_; intro hh; first | contradiction | (exfalso; omega) | skip)
    | (exact main (by omega))
    | (exact hout (by omega))
    | refine And.intro ?_ ?_
    | omega)
theorem s_X12_isFree {d : Nat} {dd : List (Nat × Nat)} {sh : Nat → Nat → Nat} {g : Nat → Nat → Int} {K : Int → (Nat → Nat → Int) → Prop} {v1 : Int} (hA : AB (g 135)) (h : i32 v1) (hK : free (g 135) v1 → K 1 g) (hK0 : ¬ free (g 135) v1 → K 0 g) : cI (d + 2) m_X12_isFree [(vR 134), (vI v1)] dd sh g K := by
  refine mkI (ls := [some (vR 134), some (vI v1), none]) rfl rfl rfl rfl rfl (r_X12_isFree_0 ?_)
  have hn := hA.n
  obtain ⟨n, hN⟩ := Int.eq_ofNat_of_zero_le hn.1
  refine loop (P := fun k => (∀ p : Nat, p < k → g 135 (18 + 7 * p) ≠ v1) → rI (d + 1) m_X12_isFree 2 [some (vR 134), some (vI v1), some (vI ((k : Int)))] [] dd sh g K) (n := n) ?_ ?_ 0 (by omega) (fun p hp => absurd hp (by omega))
  · intro hall
    have hf : 0 ≤ v1 → v1 < 40 → free (g 135) v1 := fun h1 h2 => ⟨h1, h2, fun p hp hq => hall p (by omega)⟩
    have hout : ¬ (0 ≤ v1 ∧ v1 < 40) → K 0 g := fun hv => hK0 fun hf => hv ⟨hf.1, hf.2.1⟩
    refine r_X12_isFree_2 ?_
    repeat' (first
      | (refine imp_mk ?_; intro hh; first | contradiction | (exfalso; omega) | skip)
      | (refine s_X12_isIn (by omega) (by omega) (by omega) (fun h1 h2 => ?_) (fun h1 => ?_))
      | (exact hK (hf (by omega) (by omega)))
      | (exact hout (by omega))
      | refine And.intro ?_ ?_
      | omega)
  · intro k hk ih hall
    have hpp := hA.pp k (by omega) (by omega)
    refine r_X12_isFree_2 ?_
    by_cases he : g 135 (18 + 7 * k) = v1
    · have hf : ¬ free (g 135) v1 := fun hf => hf.2.2 k (by omega) (by omega) (by omega)
      repeat' (first
        | (refine imp_mk ?_; intro hh; first | contradiction | (exfalso; omega) | skip)
        | (refine s_get2 (by omega) ?_)
        | (exact hK0 hf)
        | refine And.intro ?_ ?_
        | omega)
    · have ih' := ih fun p hp => by
        by_cases hpk : p = k
        · rw [hpk]; omega
        · exact hall p (by omega)
      repeat' (first
        | (refine imp_mk ?_; intro hh; first | contradiction | (exfalso; omega) | skip)
        | (refine s_get2 (by omega) ?_)
        | (exact ih')
        | refine And.intro ?_ ?_
        | omega)
