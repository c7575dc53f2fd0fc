-- the law's own body over the small machine
/-- from here the law comes to its end with true -/
def LR (sc : List Int) (d k n pc : Nat) (ls : LV) (st : List V) (H : HS) : Prop :=
  ∀ (p : Program) (l : Launch) (e : Env) (s : State) (m : MethodId) (below : List Frame) (meth : Method) (c : Code) (b b0 : Nat) (zad : Nat → Nat) (cs : Nat → ClassId) (D : va_G),
    CX p s m #[Value.ref b] c code 4 18 b0 zad cs D sc → meth.sig.returnType = ret → meth.locks = false → s.heap.size = b0 + 1 →
    GW p l e room_1 s m #[Value.ref b] below meth c (lw_Z below #[Value.ref b] s) b0 zad cs D 4 pc k n ls st H
theorem law_go {sc : List Int} {d k n : Nat} {ls : LV} {st : List V} {H : HS} {i : Ins} {r : List Ins} (hd : d ≤ 1000) (hok : okL 364 (i :: r) = true)
    (h : wp sc (fun pc k n ls st H => LR sc d k n pc ls st H) (fun v _ => v = vI 1) (CallM d) (i :: r) k n ls st H) : LR sc d k n i.1 ls st H := by
  intro p l e s m below meth c b b0 zad cs D C hret hlk hb0
  refine wp_gw (M := 364) (J := fun pc k n ls st H => LR sc d k n pc ls st H) (Rt := fun v _ => v = vI 1) C (by show d + 1 ≤ 2048; omega) (by show 80 * (d + 1) ≤ 84000; omega) (fun q => absurd q (by decide +kernel)) (fun pc k n ls st H h => h p l e s m below meth c b b0 zad cs D C hret hlk hb0) ?_ ?_ ?_ ?_ r i hok k n ls st H h
  · intro pc k n ls a H hd h9 hr hq
    have ha : a = 1 := by injection hq
    subst ha
    intro hL hp locs lsA cells slots w hl h1 h2
    obtain ⟨hx, hb, hml, hown, hts, hK, hb1, hE⟩ := C
    refine W.widen (k := 700676) (n := 7000219) (by have : room_1.cells = 700676 := rfl; omega) (by have : room_1.slots = 7000219 := rfl; omega) ?_
    have hf : ∀ q ∈ locs, s.heap.size ≤ q.base := fun q hq => by
      have := w.2.2.2.2.2.2 q hq
      unfold fA at this
      omega
    have := W.forget (locs := []) (L := locs) hf (lw_ret (p := p) (l := l) (e := e) (s := s) (m := m) (meth := meth) (c := c) (pc := pc) (below := below) (b := b) (H := hp) (ls := lsA) hx hb hret hlk hd)
    rw [List.nil_append] at this
    exact this
  · intro pc k n ls a H hd h9
    exact absurd h9 (by decide)
  · intro pc k n ls a H rt hd h9 hrt
    injection h9 with h9
    subst h9
    exact absurd hrt (by decide)
  · intro pc k n ls H hd h9
    exact absurd h9 (by decide)
theorem lwk {sc : List Int} {d k n pc : Nat} {ls ls' : LV} {st : List V} {H : HS} (h : LR sc d k n pc ls' st H) (hw : Wk ls' ls) : LR sc d k n pc ls st H := by
  intro p l e s m below meth c b b0 zad cs D C hret hlk hb0 hL hp locs lsA cells slots w hl h1 h2
  refine h p l e s m below meth c b b0 zad cs D C hret hlk hb0 (by rw [Wk_len hw]; exact hL) hp locs lsA cells slots w (lv_mono hl fun q hq => ?_) h1 h2
  obtain ⟨j, v, g1, g2⟩ := (mem_lvl _ _ _).mp hq
  exact (mem_lvl _ _ _).mpr ⟨j, v, Wk_get hw j v g1, g2⟩
theorem law_go2 {sc : List Int} {d k n pc : Nat} {ls : LV} {st : List V} {H : HS} {i : Ins} {r : List Ins} (hd : d ≤ 1000) (hok : okL 364 (i :: r) = true) (hpc : i.1 = pc)
    (h : wp sc (fun pc k n ls st H => LR sc d k n pc ls st H) (fun v _ => v = vI 1) (CallM d) (i :: r) k n ls st H) : LR sc d k n pc ls st H := by
  subst hpc
  exact law_go hd hok h
