theorem aoa_in : Cond.arrayOver (.array .int) ∈ ztbl := zin (List.mem_of_getElem? (i := 241) (by decide +kernel)) rfl
theorem aot_in : Cond.arrayOver (.object "UntilHeConfesses$Text") ∈ ztbl := zin (List.mem_of_getElem? (i := 265) (by decide +kernel)) rfl
theorem aci_in : Cond.arrayClass .int ∈ ztbl := zin (List.mem_of_getElem? (i := 233) (by decide +kernel)) rfl
theorem acl_in : Cond.arrayClass .long ∈ ztbl := zin (List.mem_of_getElem? (i := 1606) (by decide +kernel)) rfl
section MNA
variable {p : Program} {l : Launch} {e : Env} {R : Room} {s : State} {m : MethodId} {args : Array Value} {below : List Frame} {meth : Method} {c : Code} {Qw : State → Prop} {cc : ByteArray} {nL own b0 : Nat} {zad : Nat → Nat} {cs : Nat → ClassId} {D : va_G} {sc : List Int} {pc k n : Nat} {ls : LV} {st : List V} {H : HS}
theorem mna_outer (cA : ClassId) (N h0 : Nat) : ∀ i : Nat, Jvm.Free.Multi.outerC cA N h0 i = arrV cA N (fun j => if j < i then .ref (h0 + 1 + j) else .null)
  | 0 => by
    show ({ cls := cA, slots := Array.replicate N .null, vm := .none } : Cell) = _
    rw [arrV_new]
    congr 1
  | i + 1 => by
    show (Jvm.Free.Multi.outerC cA N h0 i).setSlot i (.ref (h0 + 1 + i)) = _
    rw [mna_outer cA N h0 i, arrV_store]
    refine congrArg (arrV cA N) (funext fun j => ?_)
    unfold updV
    dsimp only
    rcases Nat.lt_trichotomy j i with h | h | h
    · rw [if_neg (by omega), if_pos h, if_pos (by omega)]
    · subst h
      rw [if_pos rfl, if_pos (by omega)]
    · rw [if_neg (by omega), if_neg (by omega), if_neg (by omega)]
theorem o_mna {i : Nat} {a b : Int} (C : CX p s m args c cc nL own b0 zad cs D sc) (hcl : Cond.classLink (cnm own) i "[[I" ∈ ztbl) (ha0 : 0 ≤ a) (ha1 : a ≤ 1000) (hb0' : 0 ≤ b) (hb1 : b ≤ 1000) (hk : 1 + a.toNat ≤ k) (hn : a.toNat + a.toNat * b.toNat ≤ n) (hd : decode cc pc = .ok (.multianewarray i 2, 4))
    (K : GW p l e R s m args below meth c Qw b0 zad cs D nL (pc + 4) (k - (1 + a.toNat)) (n - (a.toNat + a.toNat * b.toNat)) ls (vR H.1.length :: st) (H.1 ++ ((2, a.toNat) :: List.replicate a.toNat (0, b.toNat)), rowOf H.2.1 H.1.length (fun i => if i < a.toNat then H.1.length + 1 + i else 0), fun p i => if H.1.length < p ∧ p ≤ H.1.length + a.toNat then 0 else H.2.2 p i)) : GW p l e R s m args below meth c Qw b0 zad cs D nL pc k n ls (vI b :: vI a :: st) H := by
  intro hL hp locs lsA cells slots w hl h1 h2 T hT X
  have w0 := w
  have hne := WD_ne w
  obtain ⟨hx, hb, hml, hown, hts, hK, hb0, hE⟩ := C
  obtain ⟨w1, w2, w3, w4, w5⟩ := w
  have ca : (Int32.ofInt a).toNatClampNeg = a.toNat := Int32.toNatClampNeg_ofInt_of_le (by omega) (by omega)
  have cb : (Int32.ofInt b).toNatClampNeg = b.toNat := Int32.toNatClampNeg_ofInt_of_le (by omega) (by omega)
  have na : ¬ Int32.ofInt a < 0 := fun q => by rw [z_0, z_lt ⟨by omega, by omega⟩ (by decide)] at q; omega
  have nb : ¬ Int32.ofInt b < 0 := fun q => by rw [z_0, z_lt ⟨by omega, by omega⟩ (by decide)] at q; omega
  have hdc : decode c.code pc = .ok (.multianewarray i 2, 4) := by rw [hb]; exact hd
  obtain ⟨vm₁, cA, comp, hW1, fA, fC, hO, -, X', step⟩ := X.multianewarray2F hx hown (ty := .int) (hts _ hcl) (hts _ aoa_in) (hts _ aci_in) (g := F0 m pc lsA ((vI b :: vI a :: st).map (cv b0 zad))) rfl hdc rfl na nb (by rw [ca]; omega) (by rw [cb]; show b.toNat * 4 ≤ _; omega) (by rw [cb]; omega) rfl rfl (by rw [ca]; omega) (by rw [ca, cb]; omega)
  rw [ca, cb] at X' step
  have eA : cA = cs 2 := Option.some.inj (fA.symm.trans (hK.2 2 _ rfl).2)
  have eC : comp = cs 0 := Option.some.inj (fC.symm.trans (hK.2 0 _ rfl).2)
  subst eA
  subst eC
  generalize hF : Jvm.Free.Multi.fill (T.setVm vm₁) (cs 2) (cs 0) a.toNat b.toNat (defaultValue .int) a.toNat = F at X' step
  have hTh : (T.setVm vm₁).heap = hp := hT
  obtain ⟨f1, f2, -, -⟩ := Jvm.Free.Multi.fill_facts (T.setVm vm₁) (cs 2) (cs 0) a.toNat b.toNat (defaultValue .int) a.toNat
  rw [hF, hTh] at f1 f2
  have hold : ∀ x : Nat, x < hp.size → F.heap[x]? = hp[x]? := fun x hx => by
    have := Jvm.Free.Multi.fill_old (T.setVm vm₁) (cs 2) (cs 0) a.toNat b.toNat (defaultValue .int) (a := x) (by rw [hTh]; exact hx) a.toNat
    rw [hF, hTh] at this
    exact this
  have hrow : ∀ j : Nat, j < a.toNat → F.heap[hp.size + 1 + j]? = some (Jvm.Free.Multi.innerC (cs 0) b.toNat (defaultValue .int)) := fun j hj => by
    have := Jvm.Free.Multi.fill_inner (T.setVm vm₁) (cs 2) (cs 0) a.toNat b.toNat (defaultValue .int) a.toNat j hj
    rw [hF, hTh] at this
    exact this
  have wd : WD b0 zad cs D s.heap (H.1 ++ ((2, a.toNat) :: List.replicate a.toNat (0, b.toNat)), rowOf H.2.1 H.1.length (fun i => if i < a.toNat then H.1.length + 1 + i else 0), fun p i => if H.1.length < p ∧ p ≤ H.1.length + a.toNat then 0 else H.2.2 p i) F.heap locs := by
    refine WD_push (L := (2, a.toNat) :: List.replicate a.toNat (0, b.toNat)) w0 rfl (fun q hq => ?_) (fun q hq => ⟨fun _ => rowOf_ne (f := H.2.1) (g := fun i => if i < a.toNat then H.1.length + 1 + i else 0) (Nat.ne_of_lt hq), fun _ => if_neg (by omega)⟩) (by rw [f1, List.length_cons, List.length_replicate]; omega) hold (fun j hj => ?_)
    · rcases List.mem_cons.mp hq with h | h
      · rw [h]; show a.toNat ≤ 100000; omega
      · rw [(List.mem_replicate.mp h).2]; show b.toNat ≤ 100000; omega
    · rw [List.length_cons, List.length_replicate] at hj
      cases j with
      | zero =>
        rw [Nat.add_zero, show b0 + H.1.length = hp.size by omega, cell_2 (N := a.toNat) (by simp)]
        show F.heap[hp.size]? = some (vp_cell _ _)
        rw [f2, vp_cell_q, mna_outer]
        refine congrArg (fun f => some (arrV _ _ f)) (funext fun j => ?_)
        show _ = va_rf (rf b0 (rowOf H.2.1 H.1.length (fun i => if i < a.toNat then H.1.length + 1 + i else 0) H.1.length j))
        rw [rowOf_eq]
        by_cases hj : j < a.toNat
        · rw [if_pos hj, if_pos hj]
          unfold rf
          rw [if_neg (by omega), show b0 + (H.1.length + 1 + j) = hp.size + 1 + j by omega]
          rfl
        · rw [if_neg hj, if_neg hj]
          rfl
      | succ j =>
        rw [show b0 + (H.1.length + (j + 1)) = hp.size + 1 + j by omega, cell_0 (N := b.toNat) (by
          rw [List.getElem?_append_right (by omega), show H.1.length + (j + 1) - H.1.length = j + 1 by omega, List.getElem?_cons_succ, List.getElem?_replicate, if_pos (by omega)])]
        show F.heap[hp.size + 1 + j]? = some (vp_cell _ _)
        rw [hrow j (by omega), vp_cell_i]
        show some ({ cls := cs 0, slots := Array.replicate b.toNat (Value.int 0), vm := .none } : Cell) = _
        rw [arrV_new]
        refine congrArg (fun f => some (arrV _ _ f)) (funext fun j2 => ?_)
        show _ = Value.int (Int32.ofInt (if H.1.length < H.1.length + (j + 1) ∧ H.1.length + (j + 1) ≤ H.1.length + a.toNat then 0 else H.2.2 (H.1.length + (j + 1)) j2))
        rw [if_pos (by omega)]
        rfl
  obtain ⟨t, a1, b1⟩ := K hL F.heap locs lsA (cells + 1 + a.toNat) (slots + a.toNat + a.toNat * b.toNat) wd hl (by omega) (by omega) F rfl X'
  refine ⟨t, step t ?_, b1⟩
  rw [List.map_cons, cv_ref hne, show b0 + H.1.length = T.heap.size by rw [hT]; omega] at a1
  exact a1
end MNA
