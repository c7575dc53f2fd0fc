theorem mt_words {o i kd M : Nat} {ps : List Nat} (h : (o, i, kd, M, ps) ∈ MTab) : ∀ w ∈ mwords o i kd M, w ∈ lw_tbl := by
  intro w hw
  have h1 := of_decide_eq_true (List.all_eq_true.mp MTab_ok _ h)
  have h2 : some w ∈ ps.map (fun p => lw_tbl[p]?) := by
    dsimp only at h1
    rw [h1]
    exact List.mem_map.mpr ⟨w, hw, rfl⟩
  obtain ⟨p, -, hp⟩ := List.mem_map.mp h2
  exact List.mem_of_getElem? hp
def nprm (M : Nat) : Nat := ((parseMethodDescriptor (Py M).desc).map (fun d => d.parameters.length)).getD 99
theorem P_ok : (List.range 364).all (fun M => decide ((Py M).cls ≠ "java/lang/invoke/MethodHandle") && decide ((Py M).cls ≠ "java/lang/invoke/VarHandle") && (parseMethodDescriptor (Py M).desc).isSome && decide (PnL M ≤ 50) && decide ((Py M).cls = cnm (Pown M))) = true := by decide +kernel
theorem P_at {M : Nat} (h : M < 364) : (Py M).cls ≠ "java/lang/invoke/MethodHandle" ∧ (Py M).cls ≠ "java/lang/invoke/VarHandle" ∧ (parseMethodDescriptor (Py M).desc).map (fun d => d.parameters.length) = some (nprm M) ∧ PnL M ≤ 50 ∧ (Py M).cls = cnm (Pown M) := by
  have h1 := List.all_eq_true.mp P_ok M (List.mem_range.mpr h)
  simp only [Bool.and_eq_true, decide_eq_true_eq] at h1
  obtain ⟨⟨⟨⟨h1, h2⟩, h3⟩, h4⟩, h6⟩ := h1
  refine ⟨h1, h2, ?_, h4, h6⟩
  unfold nprm
  cases hq : parseMethodDescriptor (Py M).desc with
  | none => rw [hq] at h3; cases h3
  | some d => rfl
theorem code_z {M : Nat} (h : M < 364) : codew M ∈ ztbl := zin (code_in M h) rfl
theorem P_plain : (List.range 364).all (fun M => plainFor (Py M)) = true := by decide +kernel
section CALL
variable {p : Program} {l : Launch} {e : Env} {R : Room} {s : State} {m : MethodId} {args : Array Value} {below : List Frame} {meth : Method} {c : Code} {Qw : State → Prop} {cc : ByteArray} {nL own b0 : Nat} {zad : Nat → Nat} {cs : Nat → ClassId} {D : va_G} {sc : List Int} {pc k n : Nat} {ls : LV} {st : List V} {H : HS}
theorem o_after {M : Nat} {Q : V → HS → Prop} {rest : List V} {stk : List Value} {a : Array Value} {hp : Heap} {locs : List Loc} {lsA : Array Slot} {cells slots : Nat} (hL : ls.length = nL) (w : WD b0 zad cs D s.heap H hp locs) (hl : lv_has lsA nL (lvl b0 zad 0 ls)) (h1 : cells + k ≤ R.cells) (h2 : slots + n ≤ R.slots)
    (hr : va_Run p l e R s m args below meth c hp locs cells slots (Pmc M) (Pms M) (F0 m pc lsA stk) (rest.map (cv b0 zad)) (QcM b0 zad cs D (Pret M) Q a) (fA b0)) (hk : Pmc M ≤ k) (hn : Pms M ≤ n)
    (K : ∀ r H', Q r H' → GW p l e R s m args below meth c Qw b0 zad cs D nL (pc + 3) (k - Pmc M) (n - Pms M) ls (pushv (Pret M).isNone r rest) H') : W p l e R s m args below meth c hp locs cells slots Qw (F0 m pc lsA stk) := by
  intro T hT X
  obtain ⟨v, st₀, t, T', L, g0, X', hLf, e1, e2, ⟨⟨r, H', hq, ho, hw⟩, hF⟩, go⟩ := hr T hT X
  have hv : v = rvM b0 zad (Pret M) r := Outcome.returned.inj ho
  subst hv
  obtain ⟨w1, w2, w3, w4, w5⟩ := w
  obtain ⟨hF1, hF2⟩ := hF
  rw [g0] at hF1 hF2
  have wd : WD b0 zad cs D s.heap H' T'.heap (locs ++ L) := by
    obtain ⟨v1, v2, v3, v4⟩ := hw
    rw [e1]
    refine ⟨v1, v2, v3, v4, Nat.le_trans w5.1 hF1, fun q q1 q2 => ?_, fun q hq => ?_⟩
    · rw [hF2 q (Nat.lt_of_lt_of_le q1 w5.1) q2]
      exact w5.2.1 q q1 q2
    · rcases List.mem_append.mp hq with h | h
      · exact w5.2.2 q h
      · exact hLf q h
  obtain ⟨t2, a1, b1⟩ := K r H' hq hL T'.heap (locs ++ L) lsA (cells + Pmc M) (slots + Pms M) wd hl (by omega) (by omega) T' rfl X'
  refine ⟨t2, go t2 ?_, b1⟩
  have es : (pushv (Pret M).isNone r rest).map (cv b0 zad) = (rvM b0 zad (Pret M) r).toList ++ rest.map (cv b0 zad) := by
    cases hR : Pret M <;> rfl
  rw [es] at a1
  exact a1
theorem rest_cat {m : MethodId} {pc : Nat} {ls : Array Slot} {st0 : List Value} (rest : List V) (h : csum rest ≤ 8) : 2 * (F0 m pc ls st0).monitorRoom + ((rest.map (cv b0 zad)).map fun v => v.category).sum ≤ 8 := by
  have h0 : (F0 m pc ls st0).monitorRoom = 0 := rfl
  have hc : ∀ r : List V, ((r.map (cv b0 zad)).map fun v => v.category).sum = csum r := by
    intro r
    induction r with
    | nil => rfl
    | cons v r ih =>
      simp only [List.map_cons, List.sum_cons, ih]
      rcases v with a | a | a | a
      · show 1 + csum r = csum r + 1
        omega
      · show 2 + csum r = csum r + 2
        omega
      · have : (cv b0 zad (.inr (.inr (.inl a)))).category = 1 := by
          show (va_rf (rf b0 a)).category = 1
          cases rf b0 a <;> rfl
        show _ + csum r = csum r + 1
        omega
      · show 1 + csum r = csum r + 1
        omega
  have := hc rest
  omega
theorem st_split (N : Nat) : st.map (cv b0 zad) = (((st.take N).reverse).map (cv b0 zad)).reverse ++ (st.drop N).map (cv b0 zad) := by
  rw [← List.map_reverse, List.reverse_reverse, ← List.map_append, List.take_append_drop]
/-- a static method -/
theorem o_callS {i M d kd : Nat} {ps : List Nat} {Q : V → HS → Prop} (C : CX p s m args c cc nL own b0 zad cs D sc) (hM : M < 364) (hkd : kd = 1 ∨ kd = 3) (he : (own, i, kd, M, ps) ∈ MTab) (hlen : nprm M ≤ st.length) (hrest : csum (st.drop (nprm M)) ≤ 8) (hk : Pmc M ≤ k) (hn : Pms M ≤ n) (hd1 : d + 1 ≤ R.frames) (hd2 : 80 * (d + 1) ≤ R.locals)
    (hd : decode cc pc = .ok (.invokestatic i, 3)) (hC : CallM d M (st.take (nprm M)).reverse H Q) (K : ∀ r H', Q r H' → GW p l e R s m args below meth c Qw b0 zad cs D nL (pc + 3) (k - Pmc M) (n - Pms M) ls (pushv (Pret M).isNone r (st.drop (nprm M))) H') : GW p l e R s m args below meth c Qw b0 zad cs D nL pc k n ls st H := by
  intro hL hp locs lsA cells slots w hl h1 h2
  have w0 := w
  obtain ⟨hx, hb, hml, hown, hts, hK, hb0, hE⟩ := C
  obtain ⟨p1, p2, p3, p4, p6⟩ := P_at hM
  have hmw := mt_words he
  have hpre : PreS s hp (PcM b0 zad cs D sc (st.take (nprm M)).reverse H) (((st.take (nprm M)).reverse).map (cv b0 zad)) := ⟨PcM_blind, fun U hU hW => ⟨rfl, PcB_of w0 hK hts hE hU hW⟩⟩
  have hnl : (((st.take (nprm M)).reverse).map (cv b0 zad)).length = nprm M := by simp; omega
  have hroom : (rmOf d M).frames + 1 ≤ R.frames ∧ 8 + (PnL M + 11) + (rmOf d M).locals ≤ R.locals := ⟨hd1, by show 8 + (PnL M + 11) + 80 * d ≤ R.locals; omega⟩
  have hlA : lsA.size = nL := hl.1
  have hG : GoodIn ztbl [codew M] := fun w h => by rw [List.mem_singleton] at h; subst h; exact ⟨code_z hM, good_of_word rfl⟩
  refine o_after hL w0 hl h1 h2 (M := M) (rest := st.drop (nprm M)) (Q := Q) (a := (((st.take (nprm M)).reverse).map (cv b0 zad)).toArray) ?_ hk hn K
  rcases hkd with rfl | rfl
  · have hin : ∀ w ∈ va_wsS (cnm own) i (Py M) [codew M], w ∈ ztbl ∧ ((w.onTables && w.keeps) = true ∨ ∃ ty, w = .arrayClass ty) := by
      intro w hw
      simp only [va_wsS, List.cons_append, List.nil_append, List.mem_cons, List.not_mem_nil, or_false] at hw
      rcases hw with rfl | rfl | rfl | rfl
      · exact ⟨zin (hmw _ (by simp [mwords])) rfl, good_of_word rfl⟩
      · exact ⟨zin (hmw _ (by simp [mwords])) rfl, good_of_word rfl⟩
      · exact ⟨zin (hmw _ (by simp [mwords])) rfl, good_of_word rfl⟩
      · exact hG _ (by simp)
    exact va_runS (own := cnm own) (nL := nL) (n := nprm M) ⟨hx, hb, hml, hown, hts⟩ (hC l b0 zad cs D sc) (va_cwS (nprm M) hts hin rfl rfl rfl ⟨p1, p2, p3⟩ hroom) hpre rfl hnl hlA (st_split _) (rest_cat _ hrest) hd ⟨by omega, by omega⟩
  · have hin2 : (Cond.static (Py M)).before args s = true ∧ True := ⟨hts _ (zin (hmw _ (by simp [mwords])) rfl), trivial⟩
    exact va_runSN (own := cnm own) (nL := nL) (n := nprm M) ⟨hx, hb, hml, hown, hts⟩ (hC l b0 zad cs D sc) ⟨va_cnB (nprm M) hts hG rfl rfl rfl (host := "UntilHeConfesses") (va_Nw.of rfl (hts _ (zin (hmw (.methodLinkNest (cnm own) i (Py M) "UntilHeConfesses") (by simp [mwords])) rfl))) (hts _ (zin (hmw (.initialized (Py M).cls) (by simp [mwords])) rfl)) ⟨p1, p2, p3⟩ hroom, hin2⟩ hpre rfl hnl hlA (st_split _) (rest_cat _ hrest) hd ⟨by omega, by omega⟩
end CALL
