theorem zw_one {A A' : Array Value} {s U : State} (hW : s.WarmedH U.vm) {w : Cond} (hk : zk w = true) (h : w.before A s = true) : w.before A' U = true := by
  cases w with
  | methodLinkNest a i x h9 => exact va_Nw.use rfl (va_Nw.warmM hW (va_Nw.of rfl h))
  | arrayOver t =>
    have h1 : (Cond.arrayOver t).before A (s.setVm U.vm) = true := by rw [Cond.arrayOver_setVmC hW.alike]; exact h
    exact h1
  | stringRef own k tx =>
    have h1 := Cond.stringRef_warmed hW h
    first
      | exact va_tabs rfl rfl h1
      | (simp only [Cond.before, Cond.holds, Cond.value, State.names, State.poolOf?, State.resolvedAt?] at h1 ⊢; exact h1)
  | _ => exact word_at hW (good_of_word hk) h
theorem zw {A A' : Array Value} {s U : State} (hW : s.WarmedH U.vm) (h : ∀ w ∈ ztbl, w.before A s = true) : ∀ w ∈ ztbl, w.before A' U = true :=
  fun w hw => zw_one hW (List.mem_filter.mp hw).2 (h w hw)
theorem EX_warm {b0 : Nat} {zad : Nat → Nat} {sc : List Int} {s U : State} {h : Heap} (hW : s.WarmedH U.vm) (hE : EX b0 zad sc s h) : EX b0 zad sc U h := by
  obtain ⟨h1, h2, h3, ⟨fv, f1, f2⟩, h5, h6⟩ := hE
  exact ⟨h1.moved hW.alike, fun k hk => (h2 k hk).warm hW, h3.moved hW.alike, ⟨fv, f1, f2.moved hW.alike⟩, h5.moved hW.alike, h6⟩
theorem EX_kept {b0 : Nat} {zad : Nat → Nat} {sc : List Int} {s : State} {h h1 : Heap} (hq : ∀ a : Nat, a < h.size → ¬ fA b0 a → h1[a]? = h[a]?) (hE : EX b0 zad sc s h) : EX b0 zad sc s h1 := by
  obtain ⟨g1, g2, g3, ⟨fv, f1, f2⟩, g5, g6⟩ := hE
  exact ⟨g1.kept hq, g2, g3.kept hq, ⟨fv, f1, f2.kept hq⟩, g5.kept (hq _ (Array.getElem?_eq_some_iff.mp g5.choose_spec.1).1 g6.1), g6⟩
-- contracts
def rmOf (d M : Nat) : Room := { frames := d, cells := Pmc M, slots := Pms M, locals := 80 * d }
/-- the world alone, at a heap -/
def WL (b0 : Nat) (zad : Nat → Nat) (cs : Nat → ClassId) (D : va_G) (H : HS) (hp : Heap) : Prop :=
  1 ≤ H.1.length ∧ hp.size = b0 + H.1.length ∧ (∀ (p d N : Nat), H.1[p]? = some (d, N) → N ≤ 100000) ∧ va_P D zcl (wsH b0 zad cs H) hp
def PcB (b0 : Nat) (zad : Nat → Nat) (cs : Nat → ClassId) (D : va_G) (sc : List Int) (H : HS) (U : State) : Prop :=
  WL b0 zad cs D H U.heap ∧ va_K D zcl (tysC cs) U ∧ (∀ w ∈ ztbl, w.before #[] U = true) ∧ EX b0 zad sc U U.heap
def PcM (b0 : Nat) (zad : Nat → Nat) (cs : Nat → ClassId) (D : va_G) (sc : List Int) (args : List V) (H : HS) : Array Value → State → Prop := va_Pc (args.map (cv b0 zad)) (PcB b0 zad cs D sc H)
def rvM (b0 : Nat) (zad : Nat → Nat) (ret : Option FieldType) (r : V) : Option Value := match ret with
  | none => none
  | some _ => some (cv b0 zad r)
def QcM (b0 : Nat) (zad : Nat → Nat) (cs : Nat → ClassId) (D : va_G) (ret : Option FieldType) (Q : V → HS → Prop) : Array Value → State → Outcome → State → Prop := fun _ st oc t =>
  (∃ (r : V) (H' : HS), Q r H' ∧ oc = .returned (rvM b0 zad ret r) ∧ WL b0 zad cs D H' t.heap) ∧ va_F (fA b0) st t
/-- method M, called with these at this heap, comes back with what Q says -/
def CallM (d M : Nat) (args : List V) (H : HS) (Q : V → HS → Prop) : Prop := ∀ (l : Launch) (b0 : Nat) (zad : Nat → Nat) (cs : Nat → ClassId) (D : va_G) (sc : List Int),
  Met l (Py M) [codew M] (rmOf d M) (PcM b0 zad cs D sc args H) (QcM b0 zad cs D (Pret M) Q) (Pmc M) (Pms M) (fA b0)
theorem PcM_blind {b0 : Nat} {zad : Nat → Nat} {cs : Nat → ClassId} {D : va_G} {sc : List Int} {args : List V} {H : HS} : FrameBlind (PcM b0 zad cs D sc args H) := by
  intro a U g mk h
  obtain ⟨h1, h2, h3, h4, h5⟩ := h
  have hW : U.WarmedH (U.calling g mk a).vm := State.WarmedH.refl U
  exact ⟨h1, h2, va_K.moved (u := U) (U := U.calling g mk a) (Vm.Alike.refl U.vm) h3, zw hW h4, EX_warm hW h5⟩
theorem PcB_of {b0 : Nat} {zad : Nat → Nat} {cs : Nat → ClassId} {D : va_G} {sc : List Int} {H : HS} {s U : State} {hp : Heap} {locs : List Loc} {A : Array Value} (w : WD b0 zad cs D s.heap H hp locs) (hK : va_K D zcl (tysC cs) s) (hts : ∀ w ∈ ztbl, w.before A s = true) (hE : EX b0 zad sc s s.heap) (hU : U.heap = hp) (hW : s.WarmedH U.vm) : PcB b0 zad cs D sc H U := by
  obtain ⟨w1, w2, w3, w4, w5⟩ := w
  subst hU
  exact ⟨⟨w1, w2, w3, w4⟩, va_K.moved hW.alike hK, zw hW hts, EX_warm hW (EX_kept w5.2.1 hE)⟩
