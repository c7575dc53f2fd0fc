def okI (M : Nat) (i : Ins) : Bool := match i.2.1 with
  | .nop => true
  | ins => decide (decode (Pcc M) i.1 = .ok (ins, i.2.2.1)) && (ilen ins == 0 || i.2.2.1 == ilen ins) && okC (Pown M) (Pret M) ((Py M).name == "<init>") i.1 ins i.2.2.2.1 i.2.2.2.2
def okL (M : Nat) : List Ins → Bool
  | [] => true
  | [i] => okI M i
  | i :: j :: r => okI M i && decide (j.1 = i.1 + i.2.2.1) && okL M (j :: r)
/-- from here the method comes to its end with Q -/
def Reach (d M k n pc : Nat) (ls : LV) (st : List V) (H : HS) (Q : V → HS → Prop) : Prop :=
  ∀ (p : Program) (l : Launch) (e : Env) (R : Room) (s : State) (m : MethodId) (args : Array Value) (below : List Frame) (meth : Method) (c : Code) (b0 : Nat) (zad : Nat → Nat) (cs : Nat → ClassId) (D : va_G) (sc : List Int),
    CX p s m args c (Pcc M) (PnL M) (Pown M) b0 zad cs D sc → meth.locks = false → meth.sig.returnType = Pret M → meth.name = (Py M).name → d + 1 ≤ R.frames → 80 * (d + 1) ≤ R.locals → R.cells = Pmc M → R.slots = Pms M →
    GW p l e R s m args below meth c (MQ below (QcM b0 zad cs D (Pret M) Q) args s (Pmc M) (Pms M) (fA b0)) b0 zad cs D (PnL M) pc k n ls st H
theorem wp_gw {p : Program} {l : Launch} {e : Env} {R : Room} {s : State} {m : MethodId} {args : Array Value} {below : List Frame} {meth : Method} {c : Code} {Qw : State → Prop} {M b0 : Nat} {zad : Nat → Nat} {cs : Nat → ClassId} {D : va_G} {sc : List Int} {d : Nat}
    {J : Nat → Nat → Nat → LV → List V → HS → Prop} {Rt : V → HS → Prop}
    (C : CX p s m args c (Pcc M) (PnL M) (Pown M) b0 zad cs D sc) (hd1 : d + 1 ≤ R.frames) (hd2 : 80 * (d + 1) ≤ R.locals) (hini : ((Py M).name == "<init>") = true → meth.name = "<init>")
    (hJ : ∀ pc k n ls st H, J pc k n ls st H → GW p l e R s m args below meth c Qw b0 zad cs D (PnL M) pc k n ls st H)
    (hRi : ∀ pc k n ls a H, decode (Pcc M) pc = .ok (.ireturn, 1) → retx (Pret M) ≠ 9 → rok (retx (Pret M)) a → Rt (vI a) H → GW p l e R s m args below meth c Qw b0 zad cs D (PnL M) pc k n ls [vI a] H)
    (hRl : ∀ pc k n ls a H, decode (Pcc M) pc = .ok (.lreturn, 1) → Pret M = some .long → Rt (vL a) H → GW p l e R s m args below meth c Qw b0 zad cs D (PnL M) pc k n ls [vL a] H)
    (hRa : ∀ pc k n ls a H rt, decode (Pcc M) pc = .ok (.areturn, 1) → Pret M = some rt → isRefT rt = true → Rt (.inr (.inr a)) H → GW p l e R s m args below meth c Qw b0 zad cs D (PnL M) pc k n ls [.inr (.inr a)] H)
    (hRv : ∀ pc k n ls H, decode (Pcc M) pc = .ok (.return_, 1) → Pret M = none → Rt (vI 0) H → GW p l e R s m args below meth c Qw b0 zad cs D (PnL M) pc k n ls [] H) :
    ∀ (r : List Ins) (i : Ins), okL M (i :: r) = true → ∀ k n ls st H, wp sc J Rt (CallM d) (i :: r) k n ls st H → GW p l e R s m args below meth c Qw b0 zad cs D (PnL M) i.1 k n ls st H := by
  intro r
  induction r with
  | nil =>
    intro i hok k n ls st H h
    obtain ⟨pc, ins, len, x, y⟩ := i
    by_cases hn : ins = .nop
    · subst hn
      exact hJ _ _ _ _ _ _ h
    · have hok2 : okI M (pc, ins, len, x, y) = true := hok
      have h3 : (decide (decode (Pcc M) pc = .ok (ins, len)) && (ilen ins == 0 || len == ilen ins) && okC (Pown M) (Pret M) ((Py M).name == "<init>") pc ins x y) = true := by
        unfold okI at hok2
        split at hok2
        · rename_i hq; exact absurd hq hn
        · exact hok2
      simp only [Bool.and_eq_true, Bool.or_eq_true, decide_eq_true_eq, beq_iff_eq] at h3
      exact stp_sound C hd1 hd2 hini hJ hRi hRl hRa hRv h3.1.1 h3.1.2 h3.2 hn (fun k n ls st H h => h.elim) h
  | cons j r ih =>
    intro i hok k n ls st H h
    obtain ⟨pc, ins, len, x, y⟩ := i
    simp only [okL, Bool.and_eq_true, decide_eq_true_eq] at hok
    obtain ⟨⟨hok2, hj⟩, hokr⟩ := hok
    by_cases hn : ins = .nop
    · subst hn
      exact hJ _ _ _ _ _ _ h
    · have h3 : (decide (decode (Pcc M) pc = .ok (ins, len)) && (ilen ins == 0 || len == ilen ins) && okC (Pown M) (Pret M) ((Py M).name == "<init>") pc ins x y) = true := by
        unfold okI at hok2
        split at hok2
        · rename_i hq; exact absurd hq hn
        · exact hok2
      simp only [Bool.and_eq_true, Bool.or_eq_true, decide_eq_true_eq, beq_iff_eq] at h3
      refine stp_sound C hd1 hd2 hini hJ hRi hRl hRa hRv h3.1.1 h3.1.2 h3.2 hn (fun k n ls st H h => ?_) h
      have := ih j hokr k n ls st H h
      rw [hj] at this
      exact this
/-- a stretch of code: what wp says of it is enough -/
theorem go {d M k n : Nat} {ls : LV} {st : List V} {H : HS} {Q : V → HS → Prop} {i : Ins} {r : List Ins} (hok : okL M (i :: r) = true)
    (h : ∀ sc, wp sc (fun pc k n ls st H => Reach d M k n pc ls st H Q) Q (CallM d) (i :: r) k n ls st H) : Reach d M k n i.1 ls st H Q := by
  intro p l e R s m args below meth c b0 zad cs D sc C hlk hret hnm hd1 hd2 hRc hRs
  refine wp_gw (J := fun pc k n ls st H => Reach d M k n pc ls st H Q) (Rt := Q) C hd1 hd2 (fun q => by rw [hnm]; exact beq_iff_eq.mp q) (fun pc k n ls st H h => h p l e R s m args below meth c b0 zad cs D sc C hlk hret hnm hd1 hd2 hRc hRs) ?_ ?_ ?_ ?_ r i hok k n ls st H (h sc)
  · exact fun pc k n ls a H hd h9 hr hq => o_iret C hret hlk hRc hRs h9 hr hq hd
  · exact fun pc k n ls a H hd h9 hq => o_lret C hret hlk hRc hRs h9 hq hd
  · exact fun pc k n ls a H rt hd h9 hrt hq => o_aret C hret hlk hRc hRs h9 hrt hq hd
  · exact fun pc k n ls H hd h9 hq => o_vret C hret hlk hRc hRs h9 hq hd
def Wk : LV → LV → Prop
  | [], [] => True
  | a :: r, b :: s => (a = b ∨ a = none) ∧ Wk r s
  | _, _ => False
theorem Wk_len : ∀ {a b : LV}, Wk a b → a.length = b.length
  | [], [], _ => rfl
  | _ :: _, _ :: _, h => by simp [Wk_len h.2]
theorem Wk_get : ∀ {a b : LV}, Wk a b → ∀ (q : Nat) (v : V), a[q]? = some (some v) → b[q]? = some (some v)
  | [], [], _, q, v, h => by simp at h
  | x :: r, y :: s, hw, 0, v, h => by
    rcases hw.1 with e | e
    · rw [← e]; simpa using h
    · rw [e] at h; simp at h
  | x :: r, y :: s, hw, q + 1, v, h => by
    have := Wk_get hw.2 q v (by simpa using h)
    simpa using this
theorem wk {d M k n pc : Nat} {ls ls' : LV} {st : List V} {H : HS} {Q : V → HS → Prop} (hw : Wk ls' ls) (h : Reach d M k n pc ls' st H Q) : Reach d M k n pc ls st H Q := by
  intro p l e R s m args below meth c b0 zad cs D sc C hlk hret hnm hd1 hd2 hRc hRs hL hp locs lsA cells slots w hl h1 h2
  refine h p l e R s m args below meth c b0 zad cs D sc C hlk hret hnm hd1 hd2 hRc hRs (by rw [Wk_len hw]; exact hL) hp locs lsA cells slots w (lv_mono hl fun q hq => ?_) h1 h2
  obtain ⟨j, v, g1, g2⟩ := (mem_lvl _ _ _).mp hq
  exact (mem_lvl _ _ _).mpr ⟨j, v, Wk_get hw j v g1, g2⟩
theorem Reach.mono {d M k n pc : Nat} {ls : LV} {st : List V} {H : HS} {Q Q' : V → HS → Prop} (h : Reach d M k n pc ls st H Q) (hq : ∀ r H', Q r H' → Q' r H') : Reach d M k n pc ls st H Q' := by
  intro p l e R s m args below meth c b0 zad cs D sc C hlk hret hnm hd1 hd2 hRc hRs hL hp locs lsA cells slots w hl h1 h2 T hT X
  obtain ⟨t, a1, o, b1, b2, b3, b4⟩ := h p l e R s m args below meth c b0 zad cs D sc C hlk hret hnm hd1 hd2 hRc hRs hL hp locs lsA cells slots w hl h1 h2 T hT X
  obtain ⟨⟨r, H', q1, q2⟩, q3⟩ := b3
  exact ⟨t, a1, o, b1, b2, ⟨⟨r, H', hq r H' q1, q2⟩, q3⟩, b4⟩
theorem CallM.mono {d M : Nat} {args : List V} {H : HS} {Q Q' : V → HS → Prop} (h : CallM d M args H Q) (hq : ∀ r H', Q r H' → Q' r H') : CallM d M args H Q' := by
  intro l b0 zad cs D sc p e ha hc hk s m args' below hf happ hP hK
  obtain ⟨k9, o, b1, b2, b3, ⟨⟨r, H', q1, q2⟩, q3⟩, b4⟩ := h l b0 zad cs D sc p e ha hc hk s m args' below hf happ hP hK
  exact ⟨k9, o, b1, b2, b3, ⟨⟨r, H', hq r H' q1, q2⟩, q3⟩, b4⟩
/-- a method's contract, by its walk from its entry -/
theorem call {d M : Nat} {args : List V} {H : HS} {Q : V → HS → Prop} (hM : M < 364) (hlen : (argL args).length ≤ PnL M) (h : Reach d M (Pmc M) (Pms M) 0 (padL (PnL M) (argL args)) [] H Q) : CallM (d + 1) M args H Q := by
  intro l b0 zad cs D sc
  refine MetFree.of_bodySF (code := Pcc M) (maxLocals := PnL M) (ret := Pret M) (List.all_eq_true.mp P_plain M (List.mem_range.mpr hM)) ?_ ?_
  · intro args s m h hn
    obtain ⟨meth, c, h1, h2, h3, h4, h5, h6, -, -⟩ := Cond.code_spec hn (atoms_spec (ws := [codew M]) h _ List.mem_cons_self)
    exact ⟨meth, c, h1, h2, h3, h4, h5, h6⟩
  · intro p e s m args' below meth c s₁ B hml hP _
    obtain ⟨rfl, ⟨w1, w2, w3, w4⟩, hK, hts, hE⟩ := hP
    have hh0 : s₁.heap = s.heap := by rw [B.state]; rfl
    have hown : s.vm.findClass (cnm (Pown M)) = some m.cls := by
      have := findClass_of_methodNamed B.named
      rwa [(P_at hM).2.2.2.2] at this
    have C : CX p s m (args.map (cv b0 zad)).toArray c (Pcc M) (PnL M) (Pown M) b0 zad cs D sc := ⟨B.exec, B.bytes, hml, hown, zw (State.WarmedH.refl s) hts, hK, by omega, hE⟩
    have hnm : meth.name = (Py M).name := (name_of_methodNamed B.named B.method).1
    have hl := lv_entry (args.map (cv b0 zad)) (n := PnL M) (by rw [argL_len]; exact hlen)
    have hS : va_S (fA b0) s.heap s.heap [] := va_S.rf
    obtain ⟨t, a1, o, b1, b2, b3⟩ := h p l e (rmOf (d + 1) M) s m (args.map (cv b0 zad)).toArray below meth c b0 zad cs D sc C B.notSynchronized B.returns hnm (Nat.le_refl _) (Nat.le_refl _) rfl rfl
      (by unfold padL; rw [List.length_append, List.length_replicate]; omega) s.heap [] _ 0 0 ⟨w1, w2, w3, w4, hS⟩ (lv_mono hl fun q hq => argL_in b0 zad args 0 q (padL_in hq)) (by show 0 + Pmc M ≤ Pmc M; omega) (by show 0 + Pms M ≤ Pms M; omega) s₁ hh0 (Stand.of_body B)
    rw [lg_entry_eq]
    exact ⟨t, o, a1, b1, b2, ⟨b3.1, b3.2⟩⟩
