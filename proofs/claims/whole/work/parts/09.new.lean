/-- new cells at the world's end -/
theorem WD_push {b0 : Nat} {zad : Nat → Nat} {cs : Nat → ClassId} {D : va_G} {H0 hp hp1 : Heap} {H H' : HS} {locs : List Loc} {L : List (Nat × Nat)} (w : WD b0 zad cs D H0 H hp locs) (hl : H'.1 = H.1 ++ L) (hN : ∀ q ∈ L, q.2 ≤ 100000)
    (ho : ∀ q, q < H.1.length → (∀ i, H'.2.1 q i = H.2.1 q i) ∧ ∀ i, H'.2.2 q i = H.2.2 q i) (hz : hp1.size = hp.size + L.length) (oq : ∀ q : Nat, q < hp.size → hp1[q]? = hp[q]?)
    (hat : ∀ j, j < L.length → va_at D zcl (b0 + (H.1.length + j), cellE b0 zad cs H' (H.1.length + j)) hp1) : WD b0 zad cs D H0 H' hp1 locs := by
  obtain ⟨w1, w2, w3, w4, w5⟩ := w
  refine ⟨by rw [hl, List.length_append]; omega, by rw [hz, hl, List.length_append]; omega, fun p d N h => ?_, fun k q h => ?_, ⟨by have := w5.1; omega, fun q h1 h2 => ?_, w5.2.2⟩⟩
  · rw [hl] at h
    by_cases hp9 : p < H.1.length
    · rw [List.getElem?_append_left hp9] at h
      exact w3 p d N h
    · rw [List.getElem?_append_right (by omega)] at h
      exact hN (d, N) (List.mem_of_getElem? h)
  · obtain ⟨h1, h2⟩ := wsH_some h
    subst h2
    by_cases hp9 : k + 1 < H.1.length
    · have hg := wsH_get (b0 := b0) (zad := zad) (cs := cs) (H := H) (p := k + 1) (by omega) hp9
      have hc : cellE b0 zad cs H' (k + 1) = cellE b0 zad cs H (k + 1) := cell_congr (by rw [hl, List.getD_eq_getElem?_getD, List.getD_eq_getElem?_getD, List.getElem?_append_left hp9]) (ho _ hp9).1 (ho _ hp9).2
      rw [hc]
      exact (w4 _ _ hg).kept (oq _ (by show b0 + (k + 1) < hp.size; omega))
    · rw [hl, List.length_append] at h1
      have := hat (k + 1 - H.1.length) (by omega)
      rw [show H.1.length + (k + 1 - H.1.length) = k + 1 by omega] at this
      exact this
  · exact (oq q (Nat.lt_of_lt_of_le h1 w5.1)).trans (w5.2.1 q h1 h2)
theorem rowOf_ne {α : Type} {f : Nat → Nat → α} {p q j : Nat} {g : Nat → α} (h : q ≠ p) : rowOf f p g q j = f q j := if_neg h
theorem rowOf_eq {α : Type} {f : Nat → Nat → α} {p j : Nat} {g : Nat → α} : rowOf f p g p j = g j := if_pos rfl
theorem len_push {α : Type} (l : List α) (x : α) : (l ++ [x])[l.length]? = some x := by simp
theorem dflt_f (b0 : Nat) (zad : Nat → Nat) {c j : Nat} (hc : c < 13) (hj : j < nfs c) {H : HS} {q : Nat} (h1 : H.2.1 q j = 0) (h2 : H.2.2 q j = 0) : defaultValue (tyXs c j) = cv b0 zad (getv H c q j) := by
  unfold getv
  rcases TX_kind c hc j hj with ⟨h3, h4⟩ | ⟨h3, h4⟩ | ⟨h3, h4⟩ | ⟨h3, h4⟩
  · rw [h3, h4, h2]; rfl
  · rw [h3, h4, h2]; rfl
  · rw [h3, h1]
    cases ht : tyXs c j <;> rw [ht] at h4 <;> first | rfl | cases h4
  · rw [h3, h4, h2]; rfl
section NEW
variable {p : Program} {l : Launch} {e : Env} {R : Room} {s : State} {m : MethodId} {args : Array Value} {below : List Frame} {meth : Method} {c : Code} {Qw : State → Prop} {cc : ByteArray} {nL own b0 : Nat} {zad : Nat → Nat} {cs : Nat → ClassId} {D : va_G} {sc : List Int} {pc k n : Nat} {ls : LV} {st : List V} {H : HS}
theorem WD_ne {H0 hp : Heap} {locs : List Loc} (w : WD b0 zad cs D H0 H hp locs) : H.1.length ≠ 0 := by have := w.1; omega
theorem o_new {i x : Nat} (C : CX p s m args c cc nL own b0 zad cs D sc) (hx : x < 13) (hcl : Cond.classLink (cnm own) i (cnm x) ∈ ztbl) (hin : Cond.instantiable (cnm x) (nfs x) ∈ ztbl) (hini : Cond.initialized (cnm x) ∈ ztbl) (hk : 1 ≤ k) (hn : nfs x ≤ n) (hd : decode cc pc = .ok (.new i, 3))
    (K : GW p l e R s m args below meth c Qw b0 zad cs D nL (pc + 3) (k - 1) (n - nfs x) ls (vR H.1.length :: st) (H.1 ++ [(10 + x, nfs x)], rowOf H.2.1 H.1.length (fun _ => 0), rowOf H.2.2 H.1.length (fun _ => 0))) : GW p l e R s m args below meth c Qw b0 zad cs D nL pc k n ls st H := by
  intro hL hp locs lsA cells slots w hl h1 h2
  have w0 := w
  have hne := WD_ne w
  obtain ⟨hx1, hb, hml, hown, hts, hK, hb0, hE⟩ := C
  obtain ⟨w1, w2, w3, w4, w5⟩ := w
  have hKn := hK.1 x _ (zcl_get x hx)
  refine W.newcK hx1 hb hown (hts _ hcl) (hts _ hin) (hts _ hini) rfl hd (by omega) (by omega) hKn.2.1 rfl fun hp1 kC hkC e1 z1 o1 => ?_
  have hbl := u_born (tyXs x) hts (uw_in hx) hKn hkC e1 (TX_ty x hx)
  have K := K hL hp1 locs lsA (cells + 1) (slots + nfs x) (WD_push (L := [(10 + x, nfs x)]) w0 rfl (fun q hq => ?_) (fun q hq => ⟨fun _ => rowOf_ne (f := H.2.1) (g := fun _ => 0) (Nat.ne_of_lt hq), fun _ => rowOf_ne (f := H.2.2) (g := fun _ => 0) (Nat.ne_of_lt hq)⟩) z1 o1 (fun j hj => ?_)) hl (by omega) (by omega)
  · rw [List.map_cons, cv_ref hne, show b0 + H.1.length = hp.size by omega] at K
    exact K
  · rw [List.mem_singleton] at hq
    subst hq
    have : ∀ c, c < 13 → nfs c ≤ 100000 := by decide
    exact this x hx
  · have hj0 : j = 0 := by simp at hj; exact hj
    subst hj0
    rw [Nat.add_zero, show b0 + H.1.length = hp.size by omega, cell_o (c := x) (len_push _ _)]
    refine ⟨_, zcl_get x hx, hbl.to (fun j hj => ?_)⟩
    rw [dflt_f b0 zad hx hj (H := (H.1 ++ [(10 + x, nfs x)], rowOf H.2.1 H.1.length (fun _ => 0), rowOf H.2.2 H.1.length (fun _ => 0))) (q := H.1.length) (rowOf_eq (f := H.2.1) (g := fun _ => 0)) (rowOf_eq (f := H.2.2) (g := fun _ => 0))]
    show _ = (List.map _ (List.range (nfs x))).getD j Value.null
    rw [List.getD_eq_getElem?_getD, List.getElem?_map, List.getElem?_range hj]
    rfl
theorem o_newarray_int {a : Int} (C : CX p s m args c cc nL own b0 zad cs D sc) (hw : Cond.arrayClass .int ∈ ztbl) (ha0 : 0 ≤ a) (ha1 : a ≤ 100000) (hk : 1 ≤ k) (hn : a.toNat ≤ n) (hd : decode cc pc = .ok (.newarray .int, 2))
    (K : GW p l e R s m args below meth c Qw b0 zad cs D nL (pc + 2) (k - 1) (n - a.toNat) ls (vR H.1.length :: st) (H.1 ++ [(0, a.toNat)], H.2.1, rowOf H.2.2 H.1.length (fun _ => 0))) : GW p l e R s m args below meth c Qw b0 zad cs D nL pc k n ls (vI a :: st) H := by
  intro hL hp locs lsA cells slots w hl h1 h2
  have w0 := w
  have hne := WD_ne w
  obtain ⟨hx1, hb, hml, hown, hts, hK, hb0, hE⟩ := C
  obtain ⟨w1, w2, w3, w4, w5⟩ := w
  have hcl : (Int32.ofInt a).toNatClampNeg = a.toNat := Int32.toNatClampNeg_ofInt_of_le (by omega) (by omega)
  refine va_newaK hx1 hb (atype := .int) (hts _ hw) rfl hd rfl (fun q => ?_) hcl ?_ (by omega) (by omega) rfl fun hp1 cA e1 z1 o1 hAr hNm => ?_
  · rw [z_0, z_lt ⟨by omega, by omega⟩ (by decide)] at q
    omega
  · show a.toNat * 4 ≤ 536870912
    omega
  have ecA : cA = cs 0 := Option.some.inj (hNm.symm.trans (hK.2 0 _ rfl).2)
  subst ecA
  have K := K hL hp1 locs lsA (cells + 1) (slots + a.toNat) (WD_push (L := [(0, a.toNat)]) w0 rfl (fun q hq => ?_) (fun q hq => ⟨fun _ => rfl, fun _ => rowOf_ne (f := H.2.2) (g := fun _ => 0) (Nat.ne_of_lt hq)⟩) z1 o1 (fun j hj => ?_)) hl (by omega) (by omega)
  · rw [List.map_cons, cv_ref hne, show b0 + H.1.length = hp.size by omega] at K
    exact K
  · rw [List.mem_singleton] at hq
    subst hq
    show a.toNat ≤ 100000
    omega
  · have hj0 : j = 0 := by simp at hj; exact hj
    subst hj0
    rw [Nat.add_zero, show b0 + H.1.length = hp.size by omega, cell_0 (H := (H.1 ++ [(0, a.toNat)], H.2.1, rowOf H.2.2 H.1.length (fun _ => 0))) (len_push _ _)]
    show hp1[hp.size]? = some (vp_cell _ _)
    rw [e1, vp_cell_i]
    refine congrArg (fun f => some (arrV _ _ f)) (funext fun j => ?_)
    show _ = Value.int (Int32.ofInt (rowOf H.2.2 H.1.length (fun _ => 0) H.1.length j))
    rw [rowOf_eq]
    rfl
theorem o_newarray_long {a : Int} (C : CX p s m args c cc nL own b0 zad cs D sc) (hw : Cond.arrayClass .long ∈ ztbl) (ha0 : 0 ≤ a) (ha1 : a ≤ 100000) (hk : 1 ≤ k) (hn : a.toNat ≤ n) (hd : decode cc pc = .ok (.newarray .long, 2))
    (K : GW p l e R s m args below meth c Qw b0 zad cs D nL (pc + 2) (k - 1) (n - a.toNat) ls (vR H.1.length :: st) (H.1 ++ [(1, a.toNat)], H.2.1, rowOf H.2.2 H.1.length (fun _ => 0))) : GW p l e R s m args below meth c Qw b0 zad cs D nL pc k n ls (vI a :: st) H := by
  intro hL hp locs lsA cells slots w hl h1 h2
  have w0 := w
  have hne := WD_ne w
  obtain ⟨hx1, hb, hml, hown, hts, hK, hb0, hE⟩ := C
  obtain ⟨w1, w2, w3, w4, w5⟩ := w
  have hcl : (Int32.ofInt a).toNatClampNeg = a.toNat := Int32.toNatClampNeg_ofInt_of_le (by omega) (by omega)
  refine va_newaK hx1 hb (atype := .long) (hts _ hw) rfl hd rfl (fun q => ?_) hcl ?_ (by omega) (by omega) rfl fun hp1 cA e1 z1 o1 hAr hNm => ?_
  · rw [z_0, z_lt ⟨by omega, by omega⟩ (by decide)] at q
    omega
  · show a.toNat * 8 ≤ 536870912
    omega
  have ecA : cA = cs 1 := Option.some.inj (hNm.symm.trans (hK.2 1 _ rfl).2)
  subst ecA
  have K := K hL hp1 locs lsA (cells + 1) (slots + a.toNat) (WD_push (L := [(1, a.toNat)]) w0 rfl (fun q hq => ?_) (fun q hq => ⟨fun _ => rfl, fun _ => rowOf_ne (f := H.2.2) (g := fun _ => 0) (Nat.ne_of_lt hq)⟩) z1 o1 (fun j hj => ?_)) hl (by omega) (by omega)
  · rw [List.map_cons, cv_ref hne, show b0 + H.1.length = hp.size by omega] at K
    exact K
  · rw [List.mem_singleton] at hq
    subst hq
    show a.toNat ≤ 100000
    omega
  · have hj0 : j = 0 := by simp at hj; exact hj
    subst hj0
    rw [Nat.add_zero, show b0 + H.1.length = hp.size by omega, cell_1 (H := (H.1 ++ [(1, a.toNat)], H.2.1, rowOf H.2.2 H.1.length (fun _ => 0))) (len_push _ _)]
    show hp1[hp.size]? = some (vp_cell _ _)
    rw [e1, vp_cell_l]
    refine congrArg (fun f => some (arrV _ _ f)) (funext fun j => ?_)
    show _ = Value.long (Int64.ofInt (rowOf H.2.2 H.1.length (fun _ => 0) H.1.length j))
    rw [rowOf_eq]
    rfl
theorem o_anewarray {i : Nat} {a : Int} (C : CX p s m args c cc nL own b0 zad cs D sc) (hcl : Cond.classLink (cnm own) i "UntilHeConfesses$Text" ∈ ztbl) (hw : Cond.arrayOver (.object "UntilHeConfesses$Text") ∈ ztbl) (ha0 : 0 ≤ a) (ha1 : a ≤ 100000) (hk : 1 ≤ k) (hn : a.toNat ≤ n) (hd : decode cc pc = .ok (.anewarray i, 3))
    (K : GW p l e R s m args below meth c Qw b0 zad cs D nL (pc + 3) (k - 1) (n - a.toNat) ls (vR H.1.length :: st) (H.1 ++ [(3, a.toNat)], rowOf H.2.1 H.1.length (fun _ => 0), H.2.2)) : GW p l e R s m args below meth c Qw b0 zad cs D nL pc k n ls (vI a :: st) H := by
  intro hL hp locs lsA cells slots w hl h1 h2
  have w0 := w
  have hne := WD_ne w
  obtain ⟨hx1, hb, hml, hown, hts, hK, hb0, hE⟩ := C
  obtain ⟨w1, w2, w3, w4, w5⟩ := w
  have hclm : (Int32.ofInt a).toNatClampNeg = a.toNat := Int32.toNatClampNeg_ofInt_of_le (by omega) (by omega)
  refine W.anew hx1 hb hown (hts _ hcl) (hts _ hw) rfl hd rfl (fun q => ?_) (by rw [hclm]; omega) (by omega) (by rw [hclm]; omega) fun cA kA comp f1 f2 f3 f4 => ?_
  · rw [z_0, z_lt ⟨by omega, by omega⟩ (by decide)] at q
    omega
  obtain ⟨kA', comp', k1, k2, k3, k4⟩ := (hK.2 3 _ rfl).2
  have ecA : cA = cs 3 := Option.some.inj (f1.symm.trans k4)
  subst ecA
  rw [hclm]
  generalize hH1 : hp.push ({ cls := cs 3, slots := Array.replicate a.toNat .null, vm := .none } : Cell) = hp1
  have z1 : hp1.size = hp.size + 1 := by rw [← hH1, Array.size_push]
  have e1 : hp1[hp.size]? = some (arrV (cs 3) a.toNat (fun _ => .null)) := by rw [← hH1, Array.getElem?_push_size, ← arrV_new]
  have o1 : ∀ q : Nat, q < hp.size → hp1[q]? = hp[q]? := fun q hq => by rw [← hH1, Array.getElem?_push, if_neg (Nat.ne_of_lt hq)]
  have K := K hL hp1 locs lsA (cells + 1) (slots + a.toNat) (WD_push (L := [(3, a.toNat)]) w0 rfl (fun q hq => ?_) (fun q hq => ⟨fun _ => rowOf_ne (f := H.2.1) (g := fun _ => 0) (Nat.ne_of_lt hq), fun _ => rfl⟩) z1 o1 (fun j hj => ?_)) hl (by omega) (by omega)
  · rw [List.map_cons, cv_ref hne, show b0 + H.1.length = hp.size by omega] at K
    exact K
  · rw [List.mem_singleton] at hq
    subst hq
    show a.toNat ≤ 100000
    omega
  · have hj0 : j = 0 := by simp at hj; exact hj
    subst hj0
    rw [Nat.add_zero, show b0 + H.1.length = hp.size by omega, cell_3 (H := (H.1 ++ [(3, a.toNat)], rowOf H.2.1 H.1.length (fun _ => 0), H.2.2)) (len_push _ _)]
    show hp1[hp.size]? = some (vp_cell _ _)
    rw [e1, vp_cell_q]
    refine congrArg (fun f => some (arrV _ _ f)) (funext fun j => ?_)
    show _ = va_rf (rf b0 (rowOf H.2.1 H.1.length (fun _ => 0) H.1.length j))
    rw [rowOf_eq]
    rfl
end NEW
