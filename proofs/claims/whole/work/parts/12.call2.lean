theorem obj_inst : Cond.instanceMethod Lib.objectInit ∈ ztbl := zin (List.mem_of_getElem? (i := 129) (by decide +kernel)) rfl
theorem obj_code : Cond.code Lib.objectInit ⟨#[0xb1]⟩ 1 none ∈ ztbl := zin (List.mem_of_getElem? (i := 130) (by decide +kernel)) rfl
section CALL2
variable {p : Program} {l : Launch} {e : Env} {R : Room} {s : State} {m : MethodId} {args : Array Value} {below : List Frame} {meth : Method} {c : Code} {Qw : State → Prop} {cc : ByteArray} {nL own b0 : Nat} {zad : Nat → Nat} {cs : Nat → ClassId} {D : va_G} {sc : List Int} {pc k n : Nat} {ls : LV} {st : List V} {H : HS}
theorem cv_recv {hp : Heap} {locs : List Loc} {v : V} {M : Nat} (w : WD b0 zad cs D s.heap H hp locs) (hM : M < 364) (hK : va_K D zcl (tysC cs) s) (hE : EX b0 zad sc s s.heap)
    (hv : (∃ q, v = vR q ∧ q ≠ 0 ∧ Pown M < 13 ∧ H.1[q]? = some (10 + Pown M, nfs (Pown M))) ∨ (∃ z, v = vZ z ∧ Pown M = 14 ∧ z % 2 = 1 ∧ z < 48)) :
    ∃ b : Nat, cv b0 zad v = .ref b ∧ ∃ cellB : Cell, hp[b]? = some cellB ∧ cellB.vm.isStatics = false ∧ s.vm.findClass (Py M).cls = some cellB.cls := by
  obtain ⟨p1, p2, p3, p4, p6⟩ := P_at hM
  obtain ⟨w1, w2, w3, w4, w5⟩ := w
  rcases hv with ⟨q, rfl, h0, hx, hT⟩ | ⟨z, rfl, ho, hz1, hz2⟩
  · refine ⟨b0 + q, cv_ref h0, ?_⟩
    have hg := wsH_get (b0 := b0) (zad := zad) (cs := cs) h0 (WD_lt (b0 := b0) hT)
    rw [cell_o hT] at hg
    rw [p6]
    exact va_recv hK w4 (zcl_get _ hx) hg
  · refine ⟨zad z, rfl, ?_⟩
    have hk : z / 2 < 24 := by omega
    have := vk_recv (i := z / 2) hE.1 hk w5
    rw [p6, ho, show z = 2 * (z / 2) + 1 by omega]
    exact this
/-- an instance method, of the class itself -/
theorem o_callV {i M d : Nat} {ps : List Nat} {Q : V → HS → Prop} {as rest : List V} {v : V} (C : CX p s m args c cc nL own b0 zad cs D sc) (hM : M < 364) (he : (own, i, 0, M, ps) ∈ MTab) (hst : st = as.reverse ++ v :: rest) (has : as.length = nprm M) (hrest : csum rest ≤ 8) (hk : Pmc M ≤ k) (hn : Pms M ≤ n) (hd1 : d + 1 ≤ R.frames) (hd2 : 80 * (d + 1) ≤ R.locals)
    (hv : (∃ q, v = vR q ∧ q ≠ 0 ∧ Pown M < 13 ∧ H.1[q]? = some (10 + Pown M, nfs (Pown M))) ∨ (∃ z, v = vZ z ∧ Pown M = 14 ∧ z % 2 = 1 ∧ z < 48))
    (hd : decode cc pc = .ok (.invokevirtual i, 3)) (hC : CallM d M (v :: as) H Q) (K : ∀ r H', Q r H' → GW p l e R s m args below meth c Qw b0 zad cs D nL (pc + 3) (k - Pmc M) (n - Pms M) ls (pushv (Pret M).isNone r rest) H') : GW p l e R s m args below meth c Qw b0 zad cs D nL pc k n ls st H := by
  intro hL hp locs lsA cells slots w hl h1 h2
  have w0 := w
  obtain ⟨hx, hb, hml, hown, hts, hK, hb0, hE⟩ := C
  obtain ⟨p1, p2, p3, p4, p6⟩ := P_at hM
  have hmw := mt_words he
  obtain ⟨b, hvb, hrecv⟩ := cv_recv w0 hM hK hE hv
  have hpre : PreV s hp (Py M).cls b (PcM b0 zad cs D sc (v :: as) H) (as.map (cv b0 zad)) := ⟨PcM_blind, hrecv, fun U hU hW => ⟨by rw [← hvb]; rfl, PcB_of w0 hK hts hE hU hW⟩⟩
  have hroom : (rmOf d M).frames + 1 ≤ R.frames ∧ 8 + (PnL M + 11) + (rmOf d M).locals ≤ R.locals := ⟨hd1, by show 8 + (PnL M + 11) + 80 * d ≤ R.locals; omega⟩
  have hG : GoodIn ztbl [codew M] := fun w h => by rw [List.mem_singleton] at h; subst h; exact ⟨code_z hM, good_of_word rfl⟩
  have hsp : st.map (cv b0 zad) = (as.map (cv b0 zad)).reverse ++ .ref b :: rest.map (cv b0 zad) := by
    rw [hst, List.map_append, List.map_cons, hvb, List.map_reverse]
  have hin : GoodIn ztbl (wsV (cnm own) i (Py M).cls (Py M) [codew M]) := by
    intro w hw
    simp only [wsV, List.cons_append, List.nil_append, List.mem_cons, List.not_mem_nil, or_false] at hw
    rcases hw with rfl | rfl | rfl | rfl | rfl
    · exact ⟨zin (hmw _ (by simp [mwords])) rfl, good_of_word rfl⟩
    · exact ⟨zin (hmw _ (by simp [mwords])) rfl, good_of_word rfl⟩
    · exact ⟨zin (hmw _ (by simp [mwords])) rfl, good_of_word rfl⟩
    · exact ⟨zin (hmw _ (by simp [mwords])) rfl, good_of_word rfl⟩
    · exact hG _ (by simp)
  refine o_after hL w0 hl h1 h2 (M := M) (rest := rest) (Q := Q) (a := (Value.ref b :: as.map (cv b0 zad)).toArray) ?_ hk hn K
  exact va_runV (own := cnm own) (nL := nL) (n := nprm M) ⟨hx, hb, hml, hown, hts⟩ (hC l b0 zad cs D sc) (cwV (nprm M) hts hin rfl rfl rfl ⟨rfl, p1, p2, p3⟩ hroom) hpre rfl (by simpa using has) hl.1 hsp (rest_cat _ hrest) hd ⟨by omega, by omega⟩
/-- a constructor -/
theorem o_callI {i M d q : Nat} {ps : List Nat} {Q : V → HS → Prop} {as rest : List V} (C : CX p s m args c cc nL own b0 zad cs D sc) (hM : M < 364) (he : (own, i, 2, M, ps) ∈ MTab) (hst : st = as.reverse ++ vR q :: rest) (h0 : q ≠ 0) (has : as.length = nprm M) (hrest : csum rest ≤ 8) (hk : Pmc M ≤ k) (hn : Pms M ≤ n) (hd1 : d + 1 ≤ R.frames) (hd2 : 80 * (d + 1) ≤ R.locals)
    (hini : (Py M).name = "<init>") (hret : Pret M = none)
    (hd : decode cc pc = .ok (.invokespecial i, 3)) (hC : CallM d M (vR q :: as) H Q) (K : ∀ r H', Q r H' → GW p l e R s m args below meth c Qw b0 zad cs D nL (pc + 3) (k - Pmc M) (n - Pms M) ls (pushv (Pret M).isNone r rest) H') : GW p l e R s m args below meth c Qw b0 zad cs D nL pc k n ls st H := by
  intro hL hp locs lsA cells slots w hl h1 h2
  have w0 := w
  obtain ⟨hx, hb, hml, hown, hts, hK, hb0, hE⟩ := C
  obtain ⟨p1, p2, p3, p4, p6⟩ := P_at hM
  have hmw := mt_words he
  have hpre : PreS s hp (PcM b0 zad cs D sc (vR q :: as) H) (.ref (b0 + q) :: as.map (cv b0 zad)) := ⟨PcM_blind, fun U hU hW => ⟨by rw [List.map_cons, cv_ref h0], PcB_of w0 hK hts hE hU hW⟩⟩
  have hroom : (rmOf d M).frames + 1 ≤ R.frames ∧ 8 + (PnL M + 11) + (rmOf d M).locals ≤ R.locals := ⟨hd1, by show 8 + (PnL M + 11) + 80 * d ≤ R.locals; omega⟩
  have hG : GoodIn ztbl [codew M] := fun w h => by rw [List.mem_singleton] at h; subst h; exact ⟨code_z hM, good_of_word rfl⟩
  have hsp : st.map (cv b0 zad) = (as.map (cv b0 zad)).reverse ++ .ref (b0 + q) :: rest.map (cv b0 zad) := by
    rw [hst, List.map_append, List.map_cons, cv_ref h0, List.map_reverse]
  have hcw : codew M = Cond.code (Py M) (Pcc M) (PnL M) none := by unfold codew; rw [hret]
  have hC2 := hC l b0 zad cs D sc
  rw [hcw] at hC2 hG
  refine o_after hL w0 hl h1 h2 (M := M) (rest := rest) (Q := Q) (a := (Value.ref (b0 + q) :: as.map (cv b0 zad)).toArray) ?_ hk hn K
  exact va_runI (own := cnm own) (nL := nL) (n := nprm M) ⟨hx, hb, hml, hown, hts⟩ hC2 (cwI (nprm M) hts hG rfl rfl rfl (hts _ (zin (hmw (.initialized (Py M).cls) (by simp [mwords])) rfl)) (hts _ (zin (hmw (.methodLink (cnm own) i (Py M)) (by simp [mwords])) rfl)) (hts _ (zin (hmw (.instanceMethod (Py M)) (by simp [mwords])) rfl)) hini ⟨p1, p2, p3⟩ hroom) hpre rfl (by simpa using has) hl.1 hsp (rest_cat _ hrest) hd ⟨by omega, by omega⟩
/-- Object's own constructor -/
theorem o_objInit {i q : Nat} (C : CX p s m args c cc nL own b0 zad cs D sc) (hx9 : own < 13) (hl9 : Cond.methodLink (cnm own) i Lib.objectInit ∈ ztbl) (h0 : q ≠ 0) (hrest : csum st ≤ 8) (hd1 : 1 ≤ R.frames) (hd2 : 80 ≤ R.locals) (hd : decode cc pc = .ok (.invokespecial i, 3)) (K : GW p l e R s m args below meth c Qw b0 zad cs D nL (pc + 3) k n ls st H) : GW p l e R s m args below meth c Qw b0 zad cs D nL pc k n ls (vR q :: st) H := by
  intro hL hp locs lsA cells slots w hl h1 h2
  have K := K hL hp locs lsA cells slots w hl h1 h2
  obtain ⟨hx, hb, hml, hown, hts, hK, hb0, hE⟩ := C
  rw [List.map_cons, cv_ref h0]
  have hr := rest_cat (b0 := b0) (zad := zad) (m := m) (pc := pc) (ls := lsA) (st0 := []) st hrest
  exact W.objInit hx hb hown (hts _ hl9) (hts _ obj_inst) (hts _ obj_code) rfl (by rw [hml]; exact hl.1) rfl hd hd1 (by show 2 * (F0 m pc lsA []).monitorRoom + _ + 12 ≤ R.locals; omega) K
end CALL2
