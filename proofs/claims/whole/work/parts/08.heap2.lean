theorem cell_0 {b0 : Nat} {zad : Nat → Nat} {cs : Nat → ClassId} {H : HS} {p N : Nat} (h : H.1[p]? = some (0, N)) : cellE b0 zad cs H p = .inl (cs 0, N, .inl (fun i => Int32.ofInt (H.2.2 p i))) := by
  unfold cellE; rw [List.getD_eq_getElem?_getD, h]; rfl
theorem cell_1 {b0 : Nat} {zad : Nat → Nat} {cs : Nat → ClassId} {H : HS} {p N : Nat} (h : H.1[p]? = some (1, N)) : cellE b0 zad cs H p = .inl (cs 1, N, .inr (.inl (fun i => Int64.ofInt (H.2.2 p i)))) := by
  unfold cellE; rw [List.getD_eq_getElem?_getD, h]; rfl
theorem cell_2 {b0 : Nat} {zad : Nat → Nat} {cs : Nat → ClassId} {H : HS} {p N : Nat} (h : H.1[p]? = some (2, N)) : cellE b0 zad cs H p = .inl (cs 2, N, .inr (.inr (.inr (.inr (fun i => rf b0 (H.2.1 p i)))))) := by
  unfold cellE; rw [List.getD_eq_getElem?_getD, h]; rfl
theorem cell_3 {b0 : Nat} {zad : Nat → Nat} {cs : Nat → ClassId} {H : HS} {p N : Nat} (h : H.1[p]? = some (3, N)) : cellE b0 zad cs H p = .inl (cs 3, N, .inr (.inr (.inr (.inr (fun i => rf b0 (H.2.1 p i)))))) := by
  unfold cellE; rw [List.getD_eq_getElem?_getD, h]; rfl
theorem cell_o {b0 : Nat} {zad : Nat → Nat} {cs : Nat → ClassId} {H : HS} {p c N : Nat} (h : H.1[p]? = some (10 + c, N)) : cellE b0 zad cs H p = .inr (c, (List.range (nfs c)).map (fun i => cv b0 zad (getv H c p i))) := by
  unfold cellE; rw [List.getD_eq_getElem?_getD, h, Nat.add_comm 10 c]; rfl
theorem cell_congr {b0 : Nat} {zad : Nat → Nat} {cs : Nat → ClassId} {H H' : HS} {p : Nat} (h1 : H'.1.getD p (99, 0) = H.1.getD p (99, 0)) (h2 : ∀ i, H'.2.1 p i = H.2.1 p i) (h3 : ∀ i, H'.2.2 p i = H.2.2 p i) : cellE b0 zad cs H' p = cellE b0 zad cs H p := by
  have hv : ∀ c i, getv H' c p i = getv H c p i := fun c i => by unfold getv; rw [h2, h3]
  unfold cellE
  rw [h1]
  simp only [h2, h3, hv]
theorem up_ne {α : Type} {f : Nat → Nat → α} {p i q j : Nat} {x : α} (h : q ≠ p) : up f p i x q j = f q j := if_neg h
theorem up_eq {α : Type} {f : Nat → Nat → α} {p i : Nat} {x : α} : up f p i x p i = x := by unfold up; rw [if_pos rfl, if_pos rfl]
theorem up_nj {α : Type} {f : Nat → Nat → α} {p i j : Nat} {x : α} (h : j ≠ i) : up f p i x p j = f p j := by unfold up; rw [if_pos rfl, if_neg h]
theorem WD_lt {b0 : Nat} {H : HS} {p d N : Nat} (h : H.1[p]? = some (d, N)) : p < H.1.length := (List.getElem?_eq_some_iff.mp h).1
/-- a write into the world at one place -/
theorem WD_set {b0 : Nat} {zad : Nat → Nat} {cs : Nat → ClassId} {D : va_G} {H0 hp hp1 : Heap} {H H' : HS} {locs : List Loc} {p j : Nat} {e : va_E} (w : WD b0 zad cs D H0 H hp locs) (hl : H'.1 = H.1) (h0 : p ≠ 0) (h1 : p < H.1.length) (he : cellE b0 zad cs H' p = e) (ho : ∀ q, q ≠ p → (∀ i, H'.2.1 q i = H.2.1 q i) ∧ ∀ i, H'.2.2 q i = H.2.2 q i)
    (hat : va_at D zcl (b0 + p, e) hp1) (hz : hp1.size = hp.size) (oq : ∀ q : Nat, q ≠ b0 + p → hp1[q]? = hp[q]?) : WD b0 zad cs D H0 H' hp1 (locs ++ [⟨b0 + p, j⟩]) := by
  obtain ⟨w1, w2, w3, w4, w5⟩ := w
  refine ⟨by rw [hl]; exact w1, by rw [hz, hl]; exact w2, by rw [hl]; exact w3, ?_, w5.put hz oq (by show b0 < b0 + p; omega)⟩
  rw [← wsH_set hl h0 h1 he (fun q hq => cell_congr (by rw [hl]) (ho q hq).1 (ho q hq).2)]
  exact w4.set wsH_D (wsH_get h0 h1) hat oq
theorem fs_set {f f' : Nat → Value} {N y : Nat} {v : Value} (hy : y < N) (h1 : f' y = v) (h2 : ∀ j, j ≠ y → f' j = f j) : ((List.range N).map f).set y v = (List.range N).map f' := by
  apply List.ext_getElem?
  intro j
  rw [List.getElem?_set, List.length_map, List.length_range, List.getElem?_map, List.getElem?_map]
  by_cases hj : y = j
  · subst hj
    rw [if_pos rfl, if_pos hy, List.getElem?_range hy]
    simp [h1]
  · rw [if_neg hj]
    by_cases hr : j < N
    · rw [List.getElem?_range hr]
      simp [h2 j (Ne.symm hj)]
    · rw [List.getElem?_eq_none (by simpa using hr)]
      rfl
section HEAP
variable {p : Program} {l : Launch} {e : Env} {R : Room} {s : State} {m : MethodId} {args : Array Value} {below : List Frame} {meth : Method} {c : Code} {Qw : State → Prop} {cc : ByteArray} {nL own b0 : Nat} {zad : Nat → Nat} {cs : Nat → ClassId} {D : va_G} {sc : List Int} {pc k n : Nat} {ls : LV} {st : List V} {H : HS}
theorem o_getf {i q x y : Nat} (C : CX p s m args c cc nL own b0 zad cs D sc) (hx : x < 13) (hy : y < nfs x) (hf : ftw own i x y ∈ ztbl) (h0 : q ≠ 0) (hT : H.1[q]? = some (10 + x, nfs x)) (hd : decode cc pc = .ok (.getfield i, 3)) (K : GW p l e R s m args below meth c Qw b0 zad cs D nL (pc + 3) k n ls (getv H x q y :: st) H) : GW p l e R s m args below meth c Qw b0 zad cs D nL pc k n ls (vR q :: st) H := by
  intro hL hp locs lsA cells slots w hl h1 h2
  have K := K hL hp locs lsA cells slots w hl h1 h2
  obtain ⟨hx1, hb, hml, hown, hts, hK, hb0, hE⟩ := C
  obtain ⟨w1, w2, w3, w4, w5⟩ := w
  rw [List.map_cons, cv_ref h0]
  have hg := wsH_get (b0 := b0) (zad := zad) (cs := cs) h0 (WD_lt (b0 := b0) hT)
  rw [cell_o hT] at hg
  exact va_get (own := cnm own) (ref := cnm x) (C := cnm x) (T := TXs x) (N := nfs x) hx1 hb hts (uw_in hx) hown hK w4 (q - 1) hg (zcl_get x hx) y hy (hts _ hf) (fun z hz => by rw [TX_own x hx y hy] at hz; exact hz) (by rw [List.getElem?_map, List.getElem?_range hy]; rfl) hd K
/-- a field is written -/
theorem o_putf {i q x y : Nat} {v : V} {H' : HS} (C : CX p s m args c cc nL own b0 zad cs D sc) (hx : x < 13) (hy : y < nfs x) (hf : ftw own i x y ∈ ztbl) (hfin : (TXs x y).2.2.2 = true → meth.name = "<init>" ∧ x = own) (h0 : q ≠ 0) (hT : H.1[q]? = some (10 + x, nfs x)) (hn : narrow (tyXs x y) (cv b0 zad v) = cv b0 zad v) (hfit : fits (tyXs x y) (cv b0 zad v) = true)
    (hl' : H'.1 = H.1) (he : getv H' x q y = v) (ho : ∀ j, j ≠ y → getv H' x q j = getv H x q j) (ho2 : ∀ r, r ≠ q → (∀ i, H'.2.1 r i = H.2.1 r i) ∧ ∀ i, H'.2.2 r i = H.2.2 r i)
    (hd : decode cc pc = .ok (.putfield i, 3)) (K : GW p l e R s m args below meth c Qw b0 zad cs D nL (pc + 3) k n ls st H') : GW p l e R s m args below meth c Qw b0 zad cs D nL pc k n ls (v :: vR q :: st) H := by
  intro hL hp locs lsA cells slots w hl h1 h2
  have w0 := w
  obtain ⟨hx1, hb, hml, hown, hts, hK, hb0, hE⟩ := C
  obtain ⟨w1, w2, w3, w4, w5⟩ := w
  rw [List.map_cons, List.map_cons, cv_ref h0]
  have hlt := WD_lt (b0 := b0) hT
  have hg := wsH_get (b0 := b0) (zad := zad) (cs := cs) h0 hlt
  rw [cell_o hT] at hg
  obtain ⟨r, hr, cell, q1, q2, q3, q4⟩ := w4 _ _ hg
  have er : r = (cnm x, TXs x, nfs x) := Option.some.inj (hr.symm.trans (zcl_get x hx))
  subst er
  obtain ⟨hSl, hfc, kC, hkC, hkind⟩ := hK.1 x _ (zcl_get x hx)
  obtain ⟨cf, kf, fi, f, hi, hsl⟩ := hSl y hy
  have hst := (u_facts hfc hkC (u_lays hts (uw_in hx) hy) hi).1
  have hap := va_apart (own := cnm own) hts (uw_in hx) (tyXs x) (TX_ty x hx) (TX_nm x hx) hK (zcl_get x hx)
  have hi2 : s.fieldFound? (cnm x) (TXs x y).2.1 (TXs x y).2.2.1 = some (cf, kf, fi, f) := by
    have := hi
    dsimp only at this
    rwa [TX_own x hx y hy] at this
  have hlt2 : f.slot < cell.slots.size := by rw [hsl]; exact k2_hasslot (q4 y hy)
  have hfs : ((List.range (nfs x)).map (fun i => cv b0 zad (getv H x q i))).set y (cv b0 zad v) = (List.range (nfs x)).map (fun i => cv b0 zad (getv H' x q i)) := fs_set hy (by rw [he]) (fun j hj => by rw [ho j hj])
  have hc' : cellE b0 zad cs H' q = .inr (x, (List.range (nfs x)).map (fun i => cv b0 zad (getv H' x q i))) := cell_o (by rw [hl']; exact hT)
  have kk : ∀ hp1 : Heap, hp1[b0 + q]? = some (cell.setSlot f.slot (cv b0 zad v)) → hp1.size = hp.size → (∀ z, z ≠ b0 + q → hp1[z]? = hp[z]?) → W p l e R s m args below meth c hp1 (locs ++ [⟨b0 + q, f.slot⟩]) cells slots Qw (F0 m (pc + 3) lsA (st.map (cv b0 zad))) := fun hp1 e1 hz oq => by
    refine K hL hp1 _ lsA cells slots (WD_set w0 hl' h0 hlt hc' ho2 ?_ hz oq) hl h1 h2
    rw [hsl] at e1
    refine ⟨_, zcl_get x hx, t_OB.to (V := updV (vp_V ((List.range (nfs x)).map (fun i => cv b0 zad (getv H x q i)))) y (cv b0 zad v)) ⟨_, e1, q2, q3, t_set q4 hap hy _⟩ (fun j _ => ?_)⟩
    rw [← hfs]
    exact vp_updV_set (by simpa using hy) _ j
  by_cases hF : (TXs x y).2.2.2 = true
  · obtain ⟨hin, hxo⟩ := hfin hF
    have hlay := hts _ (uw_in hx _ (u_in_lay hy))
    unfold u_lay at hlay
    rw [if_pos hF] at hlay
    have hcf : m.cls = cf := by
      obtain ⟨_, _, c', _, _, _, -, -, hf', -, -, -, hown2, -⟩ := Cond.laysFinal_spec hlay
      have e1 : c' = cf := (Prod.mk.inj (Option.some.inj (hf'.symm.trans hi))).1
      rw [TX_own x hx y hy, hxo] at hown2
      rw [← e1]
      exact Option.some.inj (hown.symm.trans hown2)
    exact W.putFinK hx1 hb hown (hts _ hf) hi2 hst hcf hin (by rw [q2]; exact u_fits hfc hkC hkind (Or.inr hlay) hi (TX_ty x hx y hy) hn hfit) q1 q3 hlt2 rfl rfl hd kk
  · have hlay := hts _ (uw_in hx _ (u_in_lay hy))
    unfold u_lay at hlay
    rw [if_neg hF] at hlay
    exact W.putK hx1 hb (f := f) ⟨hown, hts _ hf, ⟨_, _, _, hi2⟩, hst⟩ (by rw [q2]; exact u_store hfc hkC hkind hlay hi (TX_ty x hx y hy) hn hfit) q1 q3 hlt2 rfl rfl hd kk
theorem o_iaload {q N : Nat} {i : Int} (C : CX p s m args c cc nL own b0 zad cs D sc) (h0 : q ≠ 0) (hT : H.1[q]? = some (0, N)) (hi0 : 0 ≤ i) (hi1 : i < (N : Int)) (hd : decode cc pc = .ok (.iaload, 1)) (K : GW p l e R s m args below meth c Qw b0 zad cs D nL (pc + 1) k n ls (vI (H.2.2 q i.toNat) :: st) H) : GW p l e R s m args below meth c Qw b0 zad cs D nL pc k n ls (vI i :: vR q :: st) H := by
  intro hL hp locs lsA cells slots w hl h1 h2
  have K := K hL hp locs lsA cells slots w hl h1 h2
  obtain ⟨hx1, hb, hml, hown, hts, hK, hb0, hE⟩ := C
  obtain ⟨w1, w2, w3, w4, w5⟩ := w
  rw [List.map_cons, List.map_cons, cv_ref h0]
  have hg := wsH_get (b0 := b0) (zad := zad) (cs := cs) h0 (WD_lt (b0 := b0) hT)
  rw [cell_0 hT] at hg
  exact va_iald hx1 hb hK w4 (q - 1) 0 hg rfl (z_in hi0 hi1 (w3 _ _ _ hT)) hd (by rw [z_clamp hi0 hi1 (w3 _ _ _ hT)]; exact K)
theorem o_laload {q N : Nat} {i : Int} (C : CX p s m args c cc nL own b0 zad cs D sc) (h0 : q ≠ 0) (hT : H.1[q]? = some (1, N)) (hi0 : 0 ≤ i) (hi1 : i < (N : Int)) (hd : decode cc pc = .ok (.laload, 1)) (K : GW p l e R s m args below meth c Qw b0 zad cs D nL (pc + 1) k n ls (vL (H.2.2 q i.toNat) :: st) H) : GW p l e R s m args below meth c Qw b0 zad cs D nL pc k n ls (vI i :: vR q :: st) H := by
  intro hL hp locs lsA cells slots w hl h1 h2
  have K := K hL hp locs lsA cells slots w hl h1 h2
  obtain ⟨hx1, hb, hml, hown, hts, hK, hb0, hE⟩ := C
  obtain ⟨w1, w2, w3, w4, w5⟩ := w
  rw [List.map_cons, List.map_cons, cv_ref h0]
  have hg := wsH_get (b0 := b0) (zad := zad) (cs := cs) h0 (WD_lt (b0 := b0) hT)
  rw [cell_1 hT] at hg
  exact va_lald hx1 hb hK w4 (q - 1) 1 hg rfl (z_in hi0 hi1 (w3 _ _ _ hT)) hd (by rw [z_clamp hi0 hi1 (w3 _ _ _ hT)]; exact K)
theorem o_aaload {q N : Nat} {i : Int} (C : CX p s m args c cc nL own b0 zad cs D sc) (h0 : q ≠ 0) (hT : H.1[q]? = some (2, N) ∨ H.1[q]? = some (3, N)) (hi0 : 0 ≤ i) (hi1 : i < (N : Int)) (hd : decode cc pc = .ok (.aaload, 1)) (K : GW p l e R s m args below meth c Qw b0 zad cs D nL (pc + 1) k n ls (vR (H.2.1 q i.toNat) :: st) H) : GW p l e R s m args below meth c Qw b0 zad cs D nL pc k n ls (vI i :: vR q :: st) H := by
  intro hL hp locs lsA cells slots w hl h1 h2
  have K := K hL hp locs lsA cells slots w hl h1 h2
  obtain ⟨hx1, hb, hml, hown, hts, hK, hb0, hE⟩ := C
  obtain ⟨w1, w2, w3, w4, w5⟩ := w
  rw [List.map_cons, List.map_cons, cv_ref h0]
  rcases hT with hT | hT
  · have hg := wsH_get (b0 := b0) (zad := zad) (cs := cs) h0 (WD_lt (b0 := b0) hT)
    rw [cell_2 hT] at hg
    have hin := z_in hi0 hi1 (w3 _ _ _ hT)
    have hlt : (Int32.ofInt i).toNatClampNeg < N := Nat.not_le.mp fun q => hin (Or.inr q)
    refine W.aald (v := va_rf (rf b0 (H.2.1 q i.toNat))) (ty := .array .int) hx1 hb (w4 _ _ hg) ((hK.2 2 _ rfl).1 N (fun j => va_rf (rf b0 (H.2.1 q j)))) rfl (fun q => by cases q) (by show ¬ (Int32.ofInt i < 0 ∨ (arrV _ _ _).slots.size ≤ _); rw [arrV_size]; exact hin) ?_ rfl rfl hd K
    show (arrV _ _ _).slots[_]? = _
    rw [arrV_read _ _ hlt, z_clamp hi0 hi1 (w3 _ _ _ hT)]
  · have hg := wsH_get (b0 := b0) (zad := zad) (cs := cs) h0 (WD_lt (b0 := b0) hT)
    rw [cell_3 hT] at hg
    exact va_aldq hx1 hb hK w4 (q - 1) 3 hg rfl (z_in hi0 hi1 (w3 _ _ _ hT)) hd (by rw [z_clamp hi0 hi1 (w3 _ _ _ hT)]; exact K)
theorem o_iastore {q N : Nat} {i a : Int} (C : CX p s m args c cc nL own b0 zad cs D sc) (h0 : q ≠ 0) (hT : H.1[q]? = some (0, N)) (hi0 : 0 ≤ i) (hi1 : i < (N : Int)) (hd : decode cc pc = .ok (.iastore, 1)) (K : GW p l e R s m args below meth c Qw b0 zad cs D nL (pc + 1) k n ls st (H.1, H.2.1, up H.2.2 q i.toNat a)) : GW p l e R s m args below meth c Qw b0 zad cs D nL pc k n ls (vI a :: vI i :: vR q :: st) H := by
  intro hL hp locs lsA cells slots w hl h1 h2
  have w0 := w
  obtain ⟨hx1, hb, hml, hown, hts, hK, hb0, hE⟩ := C
  obtain ⟨w1, w2, w3, w4, w5⟩ := w
  rw [List.map_cons, List.map_cons, List.map_cons, cv_ref h0]
  have hlt := WD_lt (b0 := b0) hT
  have hg := wsH_get (b0 := b0) (zad := zad) (cs := cs) h0 hlt
  rw [cell_0 hT] at hg
  have hin := z_in hi0 hi1 (w3 _ _ _ hT)
  refine W.iast hx1 hb (w4 _ _ hg) ((hK.2 0 _ rfl).1 N (fun j => .int (Int32.ofInt (H.2.2 q j)))) (fun q => by cases q) (by show ¬ (Int32.ofInt i < 0 ∨ (arrV _ _ _).slots.size ≤ _); rw [arrV_size]; exact hin) rfl rfl hd fun hp1 e1 hz oq => ?_
  refine K hL hp1 _ lsA cells slots (WD_set w0 rfl h0 hlt (cell_0 (H := (H.1, H.2.1, up H.2.2 q i.toNat a)) hT) (fun r hr => ⟨fun _ => rfl, fun _ => up_ne hr⟩) ?_ hz oq) hl h1 h2
  show hp1[b0 + q]? = some (vp_cell _ _)
  rw [e1, vp_cell_i, vp_cell_i, arrV_store, z_clamp hi0 hi1 (w3 _ _ _ hT)]
  congr 2
  funext j
  unfold updV
  by_cases hj : j = i.toNat
  · subst hj
    rw [if_pos rfl]
    show _ = Value.int (Int32.ofInt (up H.2.2 q i.toNat a q i.toNat))
    rw [up_eq]
  · rw [if_neg hj]
    show _ = Value.int (Int32.ofInt (up H.2.2 q i.toNat a q j))
    rw [up_nj hj]
theorem o_lastore {q N : Nat} {i a : Int} (C : CX p s m args c cc nL own b0 zad cs D sc) (h0 : q ≠ 0) (hT : H.1[q]? = some (1, N)) (hi0 : 0 ≤ i) (hi1 : i < (N : Int)) (hd : decode cc pc = .ok (.lastore, 1)) (K : GW p l e R s m args below meth c Qw b0 zad cs D nL (pc + 1) k n ls st (H.1, H.2.1, up H.2.2 q i.toNat a)) : GW p l e R s m args below meth c Qw b0 zad cs D nL pc k n ls (vL a :: vI i :: vR q :: st) H := by
  intro hL hp locs lsA cells slots w hl h1 h2
  have w0 := w
  obtain ⟨hx1, hb, hml, hown, hts, hK, hb0, hE⟩ := C
  obtain ⟨w1, w2, w3, w4, w5⟩ := w
  rw [List.map_cons, List.map_cons, List.map_cons, cv_ref h0]
  have hlt := WD_lt (b0 := b0) hT
  have hg := wsH_get (b0 := b0) (zad := zad) (cs := cs) h0 hlt
  rw [cell_1 hT] at hg
  have hin := z_in hi0 hi1 (w3 _ _ _ hT)
  refine W.last hx1 hb (w4 _ _ hg) ((hK.2 1 _ rfl).1 N (fun j => .long (Int64.ofInt (H.2.2 q j)))) (fun q => by cases q) (by show ¬ (Int32.ofInt i < 0 ∨ (arrV _ _ _).slots.size ≤ _); rw [arrV_size]; exact hin) rfl rfl hd fun hp1 e1 hz oq => ?_
  refine K hL hp1 _ lsA cells slots (WD_set w0 rfl h0 hlt (cell_1 (H := (H.1, H.2.1, up H.2.2 q i.toNat a)) hT) (fun r hr => ⟨fun _ => rfl, fun _ => up_ne hr⟩) ?_ hz oq) hl h1 h2
  show hp1[b0 + q]? = some (vp_cell _ _)
  rw [e1, vp_cell_l, vp_cell_l, arrV_store, z_clamp hi0 hi1 (w3 _ _ _ hT)]
  congr 2
  funext j
  unfold updV
  by_cases hj : j = i.toNat
  · subst hj
    rw [if_pos rfl]
    show _ = Value.long (Int64.ofInt (up H.2.2 q i.toNat a q i.toNat))
    rw [up_eq]
  · rw [if_neg hj]
    show _ = Value.long (Int64.ofInt (up H.2.2 q i.toNat a q j))
    rw [up_nj hj]
theorem o_aastore {q r N : Nat} {i : Int} (C : CX p s m args c cc nL own b0 zad cs D sc) (h0 : q ≠ 0) (hT : H.1[q]? = some (3, N)) (hi0 : 0 ≤ i) (hi1 : i < (N : Int)) (hr : r = 0 ∨ H.1[r]? = some (19, 7)) (hd : decode cc pc = .ok (.aastore, 1)) (K : GW p l e R s m args below meth c Qw b0 zad cs D nL (pc + 1) k n ls st (H.1, up H.2.1 q i.toNat r, H.2.2)) : GW p l e R s m args below meth c Qw b0 zad cs D nL pc k n ls (vR r :: vI i :: vR q :: st) H := by
  intro hL hp locs lsA cells slots w hl h1 h2
  have w0 := w
  obtain ⟨hx1, hb, hml, hown, hts, hK, hb0, hE⟩ := C
  obtain ⟨w1, w2, w3, w4, w5⟩ := w
  rw [List.map_cons, List.map_cons, List.map_cons, cv_ref h0]
  have hlt := WD_lt (b0 := b0) hT
  have hg := wsH_get (b0 := b0) (zad := zad) (cs := cs) h0 hlt
  rw [cell_3 hT] at hg
  have hin := z_in hi0 hi1 (w3 _ _ _ hT)
  have hlt9 : (Int32.ofInt i).toNatClampNeg < N := Nat.not_le.mp fun q => hin (Or.inr q)
  have hcell : ∀ (hp1 : Heap), hp1[b0 + q]? = some ((arrV (cs 3) N (fun j => va_rf (rf b0 (H.2.1 q j)))).setSlot (Int32.ofInt i).toNatClampNeg (va_rf (rf b0 r))) → hp1.size = hp.size → (∀ z, z ≠ b0 + q → hp1[z]? = hp[z]?) → W p l e R s m args below meth c hp1 (locs ++ [⟨b0 + q, (Int32.ofInt i).toNatClampNeg⟩]) cells slots Qw (F0 m (pc + 1) lsA (st.map (cv b0 zad))) := fun hp1 e1 hz oq => by
    refine K hL hp1 _ lsA cells slots (WD_set w0 rfl h0 hlt (cell_3 (H := (H.1, up H.2.1 q i.toNat r, H.2.2)) hT) (fun r hr => ⟨fun _ => up_ne hr, fun _ => rfl⟩) ?_ hz oq) hl h1 h2
    show hp1[b0 + q]? = some (vp_cell _ _)
    rw [e1, vp_cell_q, arrV_store, z_clamp hi0 hi1 (w3 _ _ _ hT)]
    congr 2
    funext j
    unfold updV
    by_cases hj : j = i.toNat
    · subst hj
      rw [if_pos rfl]
      show _ = va_rf (rf b0 (up H.2.1 q i.toNat r q i.toNat))
      rw [up_eq]
    · rw [if_neg hj]
      show _ = va_rf (rf b0 (up H.2.1 q i.toNat r q j))
      rw [up_nj hj]
  by_cases hr0 : r = 0
  · subst hr0
    exact va_WaastN (C := "UntilHeConfesses$Text") hx1 hb (w4 _ _ hg) ((hK.2 3 _ rfl).1 N (fun j => va_rf (rf b0 (H.2.1 q j)))) (fun h => by cases h) (by show ¬ (Int32.ofInt i < 0 ∨ (arrV _ _ _).slots.size ≤ _); rw [arrV_size]; exact hin) rfl rfl hd hcell
  · have hr := hr.resolve_left hr0
    rw [cv_ref hr0]
    have hgr := wsH_get (b0 := b0) (zad := zad) (cs := cs) hr0 (WD_lt (b0 := b0) hr)
    rw [cell_o (c := 9) hr] at hgr
    obtain ⟨r', hr', cellV, g1, g2, g3, -⟩ := w4 _ _ hgr
    have hcls := (hK.1 9 _ (zcl_get 9 (by decide))).2
    obtain ⟨kA, comp, k1, k2, k3, -⟩ := (hK.2 3 _ rfl).2
    have hcomp : comp = D.1 9 := Option.some.inj (k3.symm.trans hcls.1)
    subst hcomp
    obtain ⟨kC, hkC, -⟩ := hcls.2
    have hcell2 := hcell
    rw [show va_rf (rf b0 r) = .ref (b0 + r) from cv_ref (b0 := b0) (zad := zad) hr0] at hcell2
    exact W.aast hx1 hb (w4 _ _ hg) (fun q h => by cases h) (fun h => by cases h) k1 k2 rfl hkC ⟨fun q => hin (Or.inl q), by show _ < (arrV _ _ _).slots.size; rw [arrV_size]; exact hlt9⟩ g1 (fun q h => by rw [g3] at h; cases h) (by rw [g2]; exact hkC) (by rw [g2]; exact va_assign hcls) rfl rfl hd hcell2
theorem o_alen {q d N : Nat} (C : CX p s m args c cc nL own b0 zad cs D sc) (h0 : q ≠ 0) (hT : H.1[q]? = some (d, N)) (hd4 : d < 4) (hd : decode cc pc = .ok (.arraylength, 1)) (K : GW p l e R s m args below meth c Qw b0 zad cs D nL (pc + 1) k n ls (vI (N : Int) :: st) H) : GW p l e R s m args below meth c Qw b0 zad cs D nL pc k n ls (vR q :: st) H := by
  intro hL hp locs lsA cells slots w hl h1 h2
  have K := K hL hp locs lsA cells slots w hl h1 h2
  obtain ⟨hx1, hb, hml, hown, hts, hK, hb0, hE⟩ := C
  obtain ⟨w1, w2, w3, w4, w5⟩ := w
  rw [List.map_cons, cv_ref h0]
  have hg := wsH_get (b0 := b0) (zad := zad) (cs := cs) h0 (WD_lt (b0 := b0) hT)
  have hv : Int32.ofNat N = Int32.ofInt (N : Int) := Int32.ofInt_eq_ofNat.symm
  rcases (show d = 0 ∨ d = 1 ∨ d = 2 ∨ d = 3 by omega) with rfl | rfl | rfl | rfl
  · rw [cell_0 hT] at hg; exact va_alen hx1 hb hK w4 (q - 1) 0 hg rfl hv hd K
  · rw [cell_1 hT] at hg; exact va_alen hx1 hb hK w4 (q - 1) 1 hg rfl hv hd K
  · rw [cell_2 hT] at hg; exact va_alen hx1 hb hK w4 (q - 1) 2 hg rfl hv hd K
  · rw [cell_3 hT] at hg; exact va_alen hx1 hb hK w4 (q - 1) 3 hg rfl hv hd K
theorem o_sld {i : Int} (C : CX p s m args c cc nL own b0 zad cs D sc) (hi0 : 0 ≤ i) (hi1 : i < (sc.length : Int)) (hd : decode cc pc = .ok (.iaload, 1)) (K : GW p l e R s m args below meth c Qw b0 zad cs D nL (pc + 1) k n ls (vI (sc.getD i.toNat 0) :: st) H) : GW p l e R s m args below meth c Qw b0 zad cs D nL pc k n ls (vI i :: vZ 0 :: st) H := by
  intro hL hp locs lsA cells slots w hl h1 h2
  have K := K hL hp locs lsA cells slots w hl h1 h2
  obtain ⟨hx1, hb, hml, hown, hts, hK, hb0, hE⟩ := C
  obtain ⟨w1, w2, w3, w4, w5⟩ := w
  obtain ⟨-, -, -, -, eX, eA, eL⟩ := hE
  exact va_sld hx1 hb eX (Array.getElem?_eq_some_iff.mp eX.choose_spec.1).1 eA w5 (z_in hi0 hi1 (by omega)) hd (by rw [z_clamp hi0 hi1 (by omega)]; exact K)
theorem o_slen (C : CX p s m args c cc nL own b0 zad cs D sc) (hd : decode cc pc = .ok (.arraylength, 1)) (K : GW p l e R s m args below meth c Qw b0 zad cs D nL (pc + 1) k n ls (vI (sc.length : Int) :: st) H) : GW p l e R s m args below meth c Qw b0 zad cs D nL pc k n ls (vZ 0 :: st) H := by
  intro hL hp locs lsA cells slots w hl h1 h2
  have K := K hL hp locs lsA cells slots w hl h1 h2
  obtain ⟨hx1, hb, hml, hown, hts, hK, hb0, hE⟩ := C
  obtain ⟨w1, w2, w3, w4, w5⟩ := w
  obtain ⟨-, -, -, -, eX, eA, eL⟩ := hE
  exact va_slen hx1 hb eX (Array.getElem?_eq_some_iff.mp eX.choose_spec.1).1 eA w5 hd (by rw [← Int32.ofInt_eq_ofNat]; exact K)
end HEAP
