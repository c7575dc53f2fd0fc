/-- an instruction's length (0: a switch) -/
def ilen (i : Instr) : Nat := match i with
  | .iconst _ => 1
  | .lconst _ => 1
  | .aconst_null => 1
  | .iload_n _ => 1
  | .lload_n _ => 1
  | .aload_n _ => 1
  | .istore_n _ => 1
  | .lstore_n _ => 1
  | .astore_n _ => 1
  | .iadd => 1
  | .isub => 1
  | .imul => 1
  | .idiv => 1
  | .irem => 1
  | .ineg => 1
  | .iand => 1
  | .ior => 1
  | .ixor => 1
  | .ishl => 1
  | .ishr => 1
  | .ladd => 1
  | .lsub => 1
  | .lmul => 1
  | .ldiv => 1
  | .lrem => 1
  | .lneg => 1
  | .lor => 1
  | .lshl => 1
  | .lshr => 1
  | .lcmp => 1
  | .i2l => 1
  | .l2i => 1
  | .i2c => 1
  | .dup => 1
  | .dup2 => 1
  | .pop => 1
  | .ireturn => 1
  | .lreturn => 1
  | .areturn => 1
  | .return_ => 1
  | .iaload => 1
  | .iastore => 1
  | .laload => 1
  | .lastore => 1
  | .aaload => 1
  | .aastore => 1
  | .baload => 1
  | .arraylength => 1
  | .bipush _ => 2
  | .ldc _ => 2
  | .iload _ => 2
  | .lload _ => 2
  | .aload _ => 2
  | .istore _ => 2
  | .lstore _ => 2
  | .astore _ => 2
  | .newarray _ => 2
  | .sipush _ => 3
  | .ldc_w _ => 3
  | .ldc2_w _ => 3
  | .goto _ => 3
  | .ifCond _ _ => 3
  | .if_icmp _ _ => 3
  | .ifnull _ => 3
  | .ifnonnull _ => 3
  | .iinc _ _ => 3
  | .getfield _ => 3
  | .putfield _ => 3
  | .getstatic _ => 3
  | .new _ => 3
  | .anewarray _ => 3
  | .invokespecial _ => 3
  | .invokestatic _ => 3
  | .invokevirtual _ => 3
  | .multianewarray _ _ => 4
  | _ => 0
def OLab : List (Nat × Nat × Nat) := [(11, 1, 128), (1, 3, 136), (7, 3, 142), (3, 3, 239), (8, 3, 312), (6, 3, 345), (2, 5, 402), (5, 3, 418), (0, 3, 443), (4, 3, 462), (10, 3, 493), (9, 1, 767), (12, 1, 1505)]
theorem OLab_ok : OLab.all (fun f => decide (lw_tbl[f.2.2]? = some (.methodLink (cnm f.1) f.2.1 Lib.objectInit))) = true := by decide +kernel
def ANab : List (Nat × Nat × Nat) := [(3, 21, 240), (1, 25, 263)]
theorem ANab_ok : ANab.all (fun f => decide (lw_tbl[f.2.2]? = some (.classLink (cnm f.1) f.2.1 "[[I"))) = true := by decide +kernel
def npL (i : Nat) : List Nat := match i with
  | 0 => [2, 1, 2, 3, 0, 0, 2, 0, 1, 0, 0, 0, 0, 1, 1, 1, 1, 1, 3, 4, 1, 0, 1, 2, 3, 0, 1, 4, 2, 2, 2, 1, 2, 3, 1, 4, 4, 5, 1, 0]
  | 1 => [3, 2, 1, 1, 1, 2, 1, 0, 2, 2, 2, 2, 2, 1, 1, 2, 1, 1, 1, 0, 0, 0, 0, 1, 0, 1, 4, 2, 1, 1, 1, 1, 1, 2, 0, 3, 2, 1, 1, 2]
  | 2 => [1, 1, 1, 1, 1, 1, 1, 0, 0, 0, 0, 1, 1, 0, 0, 1, 2, 1, 1, 1, 1, 2, 0, 0, 1, 1, 1, 0, 1, 1, 0, 1, 1, 1, 2, 2, 3, 1, 1, 1]
  | 3 => [1, 1, 2, 1, 1, 2, 0, 1, 2, 0, 2, 2, 1, 1, 1, 0, 1, 0, 3, 2, 5, 1, 0, 1, 1, 1, 1, 1, 2, 1, 1, 2, 0, 2, 2, 1, 2, 3, 2, 3]
  | 4 => [2, 0, 0, 3, 2, 2, 1, 3, 2, 2, 4, 5, 1, 0, 2, 0, 0, 2, 0, 2, 0, 3, 1, 3, 3, 0, 2, 0, 1, 0, 0, 0, 0, 0, 1, 2, 1, 2, 2, 3]
  | 5 => [2, 3, 2, 3, 2, 0, 2, 3, 3, 2, 1, 1, 1, 1, 2, 3, 2, 3, 1, 3, 2, 1, 5, 1, 1, 1, 1, 1, 0, 2, 3, 4, 5, 6, 1, 2, 3, 0, 0, 1]
  | 6 => [1, 1, 0, 1, 0, 0, 0, 3, 1, 5, 2, 0, 0, 0, 0, 1, 1, 1, 3, 2, 4, 1, 4, 1, 1, 0, 2, 1, 0, 0, 0, 0, 1, 1, 1, 1, 2, 1, 1, 1]
  | 7 => [1, 1, 2, 2, 2, 1, 2, 2, 3, 2, 2, 0, 0, 1, 1, 0, 0, 2, 3, 1, 2, 3, 1, 2, 3, 0, 1, 0, 0, 0, 2, 2, 2, 1, 1, 1, 2, 3, 2, 2]
  | 8 => [1, 4, 4, 5, 2, 1, 0, 2, 2, 0, 2, 0, 0, 0, 2, 0, 2, 0, 1, 2, 3, 0, 1, 3, 3, 0, 0, 0, 1, 2, 1, 2, 2, 0, 1, 0, 0, 2, 2, 2]
  | 9 => [1, 2, 2, 3]
  | _ => []
def npT (M : Nat) : Nat := (npL (M / 40)).getD (M % 40) 99
theorem np_ok : (List.range 364).all (fun M => nprm M == npT M) = true := by decide +kernel
theorem np_eq {M : Nat} (h : M < 364) : npT M = nprm M := (beq_iff_eq.mp (List.all_eq_true.mp np_ok M (List.mem_range.mpr h))).symm
/-- what must be so of an instruction in this method's code -/
def okC (own : Nat) (ret : Option FieldType) (ini : Bool) (pc : Nat) (ins : Instr) (x y : Int) : Bool := match ins with
  | .bipush c => decide ((Int8.ofInt c).toInt32 = Int32.ofInt c)
  | .sipush c => decide ((Int16.ofInt c).toInt32 = Int32.ofInt c)
  | .ldc i => match y with
    | 0 => ICab.any (fun f => f.1 == own && f.2.1 == i && f.2.2.1 == x)
    | _ => own == 8 && decide (x.toNat < 24) && sidx x.toNat == i
  | .ldc_w i => ICab.any (fun f => f.1 == own && f.2.1 == i && f.2.2.1 == x)
  | .ldc2_w i => LCab.any (fun f => f.1 == own && f.2.1 == i && f.2.2.1 == x)
  | .goto off => decide (0 ≤ (pc : Int) + off)
  | .ifCond _ off => decide (0 ≤ (pc : Int) + off)
  | .if_icmp _ off => decide (0 ≤ (pc : Int) + off)
  | .ifnull off => decide (0 ≤ (pc : Int) + off)
  | .ifnonnull off => decide (0 ≤ (pc : Int) + off)
  | .tableswitch d lo hi offs => decide (hi - lo + 1 = (offs.toList.length : Int)) && (d :: offs.toList).all (fun o => decide (0 ≤ (pc : Int) + o))
  | .lookupswitch d ps => (ps.toList.zip (ps.toList.drop 1)).all (fun (a, next) => a.1 < next.1) && decide (0 ≤ (pc : Int) + d) && ps.toList.all (fun o => decide (0 ≤ (pc : Int) + o.2))
  | .ireturn => x == retx ret && decide (retx ret ≠ 9)
  | .lreturn => decide (ret = some .long)
  | .areturn => match ret with
    | some t => isRefT t
    | none => false
  | .return_ => ret.isNone
  | .getfield i => match x with
    | -1 => own == 14 && i == 9
    | -2 => own == 14 && i == 15
    | _ => decide (x.toNat < 13) && decide (y.toNat < nfs x.toNat) && FTab.any (fun f => f.1 == own && f.2.1 == i && f.2.2.1 == x.toNat && f.2.2.2.1 == y.toNat)
  | .putfield i => decide (x.toNat < 13) && decide (y.toNat < nfs x.toNat) && FTab.any (fun f => f.1 == own && f.2.1 == i && f.2.2.1 == x.toNat && f.2.2.2.1 == y.toNat) && (!(TXs x.toNat y.toNat).2.2.2 || (ini && x.toNat == own))
  | .getstatic i => own == 14 && match x with
    | 0 => y == 1 && i == 38
    | _ => i == 1053
  | .new i => decide (x.toNat < 13) && CLab.any (fun f => f.1 == own && f.2.1 == i && f.2.2.1 == x.toNat) && INab.any (fun f => f.1 == x.toNat && f.2.1 == nfs x.toNat)
  | .anewarray i => CLab.any (fun f => f.1 == own && f.2.1 == i && f.2.2.1 == 9)
  | .multianewarray i _ => ANab.any (fun f => f.1 == own && f.2.1 == i)
  | .invokespecial i => match y with
    | -1 => decide (own < 13) && OLab.any (fun f => f.1 == own && f.2.1 == i)
    | _ => decide (x.toNat < 364) && MTab.any (fun f => f.1 == own && f.2.1 == i && f.2.2.1 == 2 && f.2.2.2.1 == x.toNat) && decide (y.toNat / 2 = npT x.toNat + 1) && (Pret x.toNat).isNone && (y.toNat % 2 == 1) && decide ((Py x.toNat).name = "<init>")
  | .invokestatic i => decide (x.toNat < 364) && MTab.any (fun f => f.1 == own && f.2.1 == i && (f.2.2.1 == 1 || f.2.2.1 == 3) && f.2.2.2.1 == x.toNat) && decide (y.toNat / 2 = npT x.toNat) && ((Pret x.toNat).isNone == (y.toNat % 2 == 1))
  | .invokevirtual i => decide (x.toNat < 364) && MTab.any (fun f => f.1 == own && f.2.1 == i && f.2.2.1 == 0 && f.2.2.2.1 == x.toNat) && decide (y.toNat / 2 = npT x.toNat + 1) && ((Pret x.toNat).isNone == (y.toNat % 2 == 1)) && (decide (Pown x.toNat < 13) || Pown x.toNat == 14)
  | _ => true
theorem ic_in {own i : Nat} {x : Int} (h : ICab.any (fun f => f.1 == own && f.2.1 == i && f.2.2.1 == x) = true) : Cond.constant (cnm own) i (Int32.ofInt x) ∈ ztbl := by
  obtain ⟨f, hf, h2⟩ := List.any_eq_true.mp h
  simp only [Bool.and_eq_true, beq_iff_eq] at h2
  obtain ⟨⟨rfl, rfl⟩, rfl⟩ := h2
  exact zin (List.mem_of_getElem? (of_decide_eq_true (List.all_eq_true.mp ICab_ok f hf))) rfl
theorem lc_in {own i : Nat} {x : Int} (h : LCab.any (fun f => f.1 == own && f.2.1 == i && f.2.2.1 == x) = true) : Cond.constantLong (cnm own) i (Int64.ofInt x) ∈ ztbl := by
  obtain ⟨f, hf, h2⟩ := List.any_eq_true.mp h
  simp only [Bool.and_eq_true, beq_iff_eq] at h2
  obtain ⟨⟨rfl, rfl⟩, rfl⟩ := h2
  exact zin (List.mem_of_getElem? (of_decide_eq_true (List.all_eq_true.mp LCab_ok f hf))) rfl
theorem ft_in {own i a b : Nat} (h : FTab.any (fun f => f.1 == own && f.2.1 == i && f.2.2.1 == a && f.2.2.2.1 == b) = true) : ftw own i a b ∈ ztbl := by
  obtain ⟨f, hf, h2⟩ := List.any_eq_true.mp h
  simp only [Bool.and_eq_true, beq_iff_eq] at h2
  obtain ⟨⟨⟨rfl, rfl⟩, rfl⟩, rfl⟩ := h2
  exact ft_link hf
theorem cl_in {own i a : Nat} (h : CLab.any (fun f => f.1 == own && f.2.1 == i && f.2.2.1 == a) = true) : Cond.classLink (cnm own) i (cnm a) ∈ ztbl := by
  obtain ⟨f, hf, h2⟩ := List.any_eq_true.mp h
  simp only [Bool.and_eq_true, beq_iff_eq] at h2
  obtain ⟨⟨rfl, rfl⟩, rfl⟩ := h2
  exact zin (List.mem_of_getElem? (of_decide_eq_true (List.all_eq_true.mp CLab_ok f hf))) rfl
theorem in_in {a b : Nat} (h : INab.any (fun f => f.1 == a && f.2.1 == b) = true) : Cond.instantiable (cnm a) b ∈ ztbl ∧ Cond.initialized (cnm a) ∈ ztbl := by
  obtain ⟨f, hf, h2⟩ := List.any_eq_true.mp h
  simp only [Bool.and_eq_true, beq_iff_eq] at h2
  obtain ⟨rfl, rfl⟩ := h2
  have h3 := List.all_eq_true.mp INab_ok f hf
  simp only [Bool.and_eq_true, decide_eq_true_eq] at h3
  exact ⟨zin (List.mem_of_getElem? h3.1) rfl, zin (List.mem_of_getElem? h3.2) rfl⟩
theorem an_in {own i : Nat} (h : ANab.any (fun f => f.1 == own && f.2.1 == i) = true) : Cond.classLink (cnm own) i "[[I" ∈ ztbl := by
  obtain ⟨f, hf, h2⟩ := List.any_eq_true.mp h
  simp only [Bool.and_eq_true, beq_iff_eq] at h2
  obtain ⟨rfl, rfl⟩ := h2
  exact zin (List.mem_of_getElem? (of_decide_eq_true (List.all_eq_true.mp ANab_ok f hf))) rfl
theorem ol_in {own i : Nat} (h : OLab.any (fun f => f.1 == own && f.2.1 == i) = true) : Cond.methodLink (cnm own) i Lib.objectInit ∈ ztbl := by
  obtain ⟨f, hf, h2⟩ := List.any_eq_true.mp h
  simp only [Bool.and_eq_true, beq_iff_eq] at h2
  obtain ⟨rfl, rfl⟩ := h2
  exact zin (List.mem_of_getElem? (of_decide_eq_true (List.all_eq_true.mp OLab_ok f hf))) rfl
theorem swT_mono {pc : Nat} {x : Int} {J1 J2 : Nat → Prop} (hm : ∀ q, J1 q → J2 q) : ∀ (r : List Int) (k : Int), swT pc x J1 r k → swT pc x J2 r k
  | [], _, _ => trivial
  | _ :: r, k, h => ⟨fun q => hm _ (h.1 q), swT_mono hm r (k + 1) h.2⟩
theorem swL_mono {pc : Nat} {x : Int} {J1 J2 : Nat → Prop} (hm : ∀ q, J1 q → J2 q) {d : Int} : ∀ (r : List (Int × Int)), swL pc x J1 d r → swL pc x J2 d r
  | [], h => hm _ h
  | _ :: r, h => ⟨fun q => hm _ (h.1 q), fun q => swL_mono hm r (h.2 q)⟩
section SUB
variable {p : Program} {l : Launch} {e : Env} {R : Room} {s : State} {m : MethodId} {args : Array Value} {below : List Frame} {meth : Method} {c : Code} {Qw : State → Prop} {cc : ByteArray} {nL own b0 : Nat} {zad : Nat → Nat} {cs : Nat → ClassId} {D : va_G} {sc : List Int} {pc k n : Nat} {ls : LV} {st : List V} {H : HS} {d : Nat} {ret : Option FieldType} {ini : Bool}
variable {J : Nat → Nat → Nat → LV → List V → HS → Prop} {Rt : V → HS → Prop} {kk : Nat → Nat → LV → List V → HS → Prop} {x y : Int}
theorem getv_g {H : HS} {c q y : Nat} {g : Nat → Nat → Int} (h : ∀ j, g q j = H.2.2 q j ∨ fty c j = 2) (j : Nat) : getv (H.1, H.2.1, g) c q j = getv H c q j := by
  unfold getv
  rcases h j with h | h
  · simp only [h]
  · simp only [h]
theorem putf_sound {i : Nat} (C : CX p s m args c cc nL own b0 zad cs D sc) (hini : ini = true → meth.name = "<init>") (hd : decode cc pc = .ok (.putfield i, 3)) (hok : okC own ret ini pc (.putfield i) x y = true) (hkk : ∀ k n ls st H, kk k n ls st H → GW p l e R s m args below meth c Qw b0 zad cs D nL (pc + 3) k n ls st H) (h : stp sc J Rt (CallM d) pc (.putfield i) x y kk k n ls st H) : GW p l e R s m args below meth c Qw b0 zad cs D nL pc k n ls st H := by
  simp only [okC, Bool.and_eq_true, decide_eq_true_eq] at hok
  obtain ⟨⟨⟨hx, hy⟩, hf⟩, hfin⟩ := hok
  have hfin2 : (TXs x.toNat y.toNat).2.2.2 = true → meth.name = "<init>" ∧ x.toNat = own := fun q => by
    rw [q] at hfin
    simp only [Bool.not_true, Bool.false_or, Bool.and_eq_true, beq_iff_eq] at hfin
    exact ⟨hini hfin.1, hfin.2⟩
  have hkd := TX_kind x.toNat hx y.toNat hy
  have og : ∀ (a : Int) (q r : Nat), r ≠ q → (∀ i, (H.1, H.2.1, up H.2.2 q y.toNat a).2.1 r i = H.2.1 r i) ∧ ∀ i, (H.1, H.2.1, up H.2.2 q y.toNat a).2.2 r i = H.2.2 r i := fun a q r hr => ⟨fun _ => rfl, fun _ => up_ne hr⟩
  have oj : ∀ (a : Int) (q j : Nat), j ≠ y.toNat → getv (H.1, H.2.1, up H.2.2 q y.toNat a) x.toNat q j = getv H x.toNat q j := fun a q j hj => by
    unfold getv
    simp only [up_nj hj]
  simp only [stp] at h
  split at h
  · obtain ⟨⟨h0, hT⟩, h⟩ := h
    rename_i a q _
    split at h
    · rename_i h9
      have ht : tyXs x.toNat y.toNat = .int := by
        rcases hkd with h | h | h | h
        · exact h.2
        · omega
        · omega
        · omega
      exact o_putf (H' := (H.1, H.2.1, up H.2.2 q y.toNat a)) C hx hy (ft_in hf) hfin2 h0 hT (by rw [ht]; rfl) (by rw [ht]; rfl) rfl (by unfold getv; rw [h9]; simp only [up_eq]) (oj a q) (og a q) hd (hkk _ _ _ _ _ h)
    · rename_i h9
      have ht : tyXs x.toNat y.toNat = .boolean := by
        rcases hkd with h | h | h | h
        · omega
        · omega
        · omega
        · exact h.2
      obtain ⟨h01, h⟩ := h
      exact o_putf (H' := (H.1, H.2.1, up H.2.2 q y.toNat a)) C hx hy (ft_in hf) hfin2 h0 hT (by rw [ht]; rcases h01 with rfl | rfl <;> rfl) (by rw [ht]; rcases h01 with rfl | rfl <;> rfl) rfl (by unfold getv; rw [h9]; simp only [up_eq]) (oj a q) (og a q) hd (hkk _ _ _ _ _ h)
    · exact h.elim
  · obtain ⟨⟨h0, hT⟩, h⟩ := h
    rename_i a q _
    split at h
    · rename_i h9
      have ht : tyXs x.toNat y.toNat = .long := by
        rcases hkd with h | h | h | h
        · omega
        · exact h.2
        · omega
        · omega
      exact o_putf (H' := (H.1, H.2.1, up H.2.2 q y.toNat a)) C hx hy (ft_in hf) hfin2 h0 hT (by rw [ht]; rfl) (by rw [ht]; rfl) rfl (by unfold getv; rw [h9]; simp only [up_eq]) (oj a q) (og a q) hd (hkk _ _ _ _ _ h)
    · exact h.elim
  · obtain ⟨⟨h0, hT⟩, h⟩ := h
    rename_i a q _
    split at h
    · rename_i h9
      have ht : isRefT (tyXs x.toNat y.toNat) = true := by
        rcases hkd with h | h | h | h
        · omega
        · omega
        · exact h.2
        · omega
      have hcv : cv b0 zad (vR a) = .null ∨ ∃ z, cv b0 zad (vR a) = .ref z := by
        by_cases ha : a = 0
        · subst ha; exact Or.inl rfl
        · exact Or.inr ⟨_, cv_ref ha⟩
      exact o_putf (H' := (H.1, up H.2.1 q y.toNat a, H.2.2)) C hx hy (ft_in hf) hfin2 h0 hT (by cases htt : tyXs x.toNat y.toNat <;> rw [htt] at ht <;> first | (rcases hcv with q | ⟨z, q⟩ <;> (rw [show cv b0 zad (Sum.inr (Sum.inr (Sum.inl a))) = cv b0 zad (vR a) from rfl, q]; rfl)) | cases ht) (by cases htt : tyXs x.toNat y.toNat <;> rw [htt] at ht <;> first | (rcases hcv with q | ⟨z, q⟩ <;> (rw [show cv b0 zad (Sum.inr (Sum.inr (Sum.inl a))) = cv b0 zad (vR a) from rfl, q]; rfl)) | cases ht) rfl (by unfold getv; rw [h9]; simp only [up_eq])
        (fun j hj => by unfold getv; simp only [up_nj hj]) (fun r hr => ⟨fun _ => up_ne hr, fun _ => rfl⟩) hd (hkk _ _ _ _ _ h)
    · exact h.elim
  · exact h.elim
theorem invS_sound {i : Nat} (C : CX p s m args c cc nL own b0 zad cs D sc) (hd1 : d + 1 ≤ R.frames) (hd2 : 80 * (d + 1) ≤ R.locals) (hd : decode cc pc = .ok (.invokestatic i, 3)) (hok : okC own ret ini pc (.invokestatic i) x y = true) (hkk : ∀ k n ls st H, kk k n ls st H → GW p l e R s m args below meth c Qw b0 zad cs D nL (pc + 3) k n ls st H) (h : stp sc J Rt (CallM d) pc (.invokestatic i) x y kk k n ls st H) : GW p l e R s m args below meth c Qw b0 zad cs D nL pc k n ls st H := by
  simp only [okC, Bool.and_eq_true, decide_eq_true_eq, beq_iff_eq] at hok
  obtain ⟨⟨⟨hM, hT⟩, hN⟩, hv⟩ := hok
  rw [np_eq hM] at hN
  obtain ⟨f, hf, h2⟩ := List.any_eq_true.mp hT
  obtain ⟨fo, fi, fk, fM, fp⟩ := f
  simp only [Bool.and_eq_true, Bool.or_eq_true, beq_iff_eq] at h2
  obtain ⟨⟨⟨rfl, rfl⟩, hk⟩, rfl⟩ := h2
  simp only [stp] at h
  obtain ⟨⟨g1, g2⟩, ⟨g3, g4⟩, hC⟩ := h
  rw [hN] at g3 g4 hC
  exact o_callS C hM hk hf g3 g4 g1 g2 hd1 hd2 hd hC (fun r H' hq => by rw [hv]; exact hkk _ _ _ _ _ hq)
theorem invV_sound {i : Nat} (C : CX p s m args c cc nL own b0 zad cs D sc) (hd1 : d + 1 ≤ R.frames) (hd2 : 80 * (d + 1) ≤ R.locals) (hd : decode cc pc = .ok (.invokevirtual i, 3)) (hok : okC own ret ini pc (.invokevirtual i) x y = true) (hkk : ∀ k n ls st H, kk k n ls st H → GW p l e R s m args below meth c Qw b0 zad cs D nL (pc + 3) k n ls st H) (h : stp sc J Rt (CallM d) pc (.invokevirtual i) x y kk k n ls st H) : GW p l e R s m args below meth c Qw b0 zad cs D nL pc k n ls st H := by
  simp only [okC, Bool.and_eq_true, Bool.or_eq_true, decide_eq_true_eq, beq_iff_eq] at hok
  obtain ⟨⟨⟨⟨hM, hT⟩, hN⟩, hv⟩, ho⟩ := hok
  rw [np_eq hM] at hN
  obtain ⟨f, hf, h2⟩ := List.any_eq_true.mp hT
  obtain ⟨fo, fi, fk, fM, fp⟩ := f
  simp only [Bool.and_eq_true, beq_iff_eq] at h2
  obtain ⟨⟨⟨rfl, rfl⟩, rfl⟩, rfl⟩ := h2
  simp only [stp] at h
  obtain ⟨hr, ⟨g1, g2⟩, ⟨g3, g4⟩, hC⟩ := h
  rw [hN] at g3 g4 hC hr
  rw [Nat.add_sub_cancel] at hr
  obtain ⟨v, hvd⟩ : ∃ v, st.drop (nprm x.toNat) = v :: st.drop (nprm x.toNat + 1) := by
    have := List.drop_eq_getElem_cons (l := st) (i := nprm x.toNat) (by omega)
    exact ⟨_, this⟩
  have hst : st = (st.take (nprm x.toNat)).reverse.reverse ++ v :: st.drop (nprm x.toNat + 1) := by
    rw [List.reverse_reverse, ← hvd, List.take_append_drop]
  have htk : (st.take (nprm x.toNat + 1)).reverse = v :: (st.take (nprm x.toNat)).reverse := by
    have e1 : st.take (nprm x.toNat + 1) = st.take (nprm x.toNat) ++ [v] := by
      have hlt : nprm x.toNat < st.length := by omega
      rw [List.take_succ_eq_append_getElem hlt]
      congr 2
      rw [List.drop_eq_getElem_cons hlt] at hvd
      exact (List.cons.inj hvd).1
    rw [e1, List.reverse_append]
    rfl
  rw [htk] at hC
  rw [hvd] at hr
  refine o_callV C hM hf hst (by rw [List.length_reverse, List.length_take]; omega) g4 g1 g2 hd1 hd2 ?_ hd hC (fun r H' hq => by rw [hv]; exact hkk _ _ _ _ _ hq)
  rcases v with a | a | q | z
  · exact hr.elim
  · exact hr.elim
  · exact Or.inl ⟨q, rfl, hr⟩
  · exact Or.inr ⟨z, rfl, hr⟩
theorem invI_sound {i : Nat} (C : CX p s m args c cc nL own b0 zad cs D sc) (hd1 : d + 1 ≤ R.frames) (hd2 : 80 * (d + 1) ≤ R.locals) (hd : decode cc pc = .ok (.invokespecial i, 3)) (hok : okC own ret ini pc (.invokespecial i) x y = true) (hkk : ∀ k n ls st H, kk k n ls st H → GW p l e R s m args below meth c Qw b0 zad cs D nL (pc + 3) k n ls st H) (h : stp sc J Rt (CallM d) pc (.invokespecial i) x y kk k n ls st H) : GW p l e R s m args below meth c Qw b0 zad cs D nL pc k n ls st H := by
  simp only [stp] at h
  simp only [okC] at hok
  split at h
  · simp only [Bool.and_eq_true, decide_eq_true_eq] at hok
    split at h
    · exact o_objInit C hok.1 (ol_in hok.2) h.1.1 h.1.2 (by omega) (by omega) hd (hkk _ _ _ _ _ h.2)
    · exact h.elim
  · rename_i hy
    split at hok
    · exact absurd rfl hy
    simp only [Bool.and_eq_true, decide_eq_true_eq, beq_iff_eq] at hok
    obtain ⟨⟨⟨⟨⟨hM, hT⟩, hN⟩, hv⟩, hvo⟩, hnm⟩ := hok
    rw [np_eq hM] at hN
    obtain ⟨f, hf, h2⟩ := List.any_eq_true.mp hT
    obtain ⟨fo, fi, fk, fM, fp⟩ := f
    simp only [Bool.and_eq_true, beq_iff_eq] at h2
    obtain ⟨⟨⟨rfl, rfl⟩, rfl⟩, rfl⟩ := h2
    obtain ⟨hr, ⟨g1, g2⟩, ⟨g3, g4⟩, hC⟩ := h
    rw [hN] at g3 g4 hC hr
    rw [Nat.add_sub_cancel] at hr
    obtain ⟨v, hvd⟩ : ∃ v, st.drop (nprm x.toNat) = v :: st.drop (nprm x.toNat + 1) := by
      have := List.drop_eq_getElem_cons (l := st) (i := nprm x.toNat) (by omega)
      exact ⟨_, this⟩
    have hst : st = (st.take (nprm x.toNat)).reverse.reverse ++ v :: st.drop (nprm x.toNat + 1) := by
      rw [List.reverse_reverse, ← hvd, List.take_append_drop]
    have htk : (st.take (nprm x.toNat + 1)).reverse = v :: (st.take (nprm x.toNat)).reverse := by
      have e1 : st.take (nprm x.toNat + 1) = st.take (nprm x.toNat) ++ [v] := by
        have hlt : nprm x.toNat < st.length := by omega
        rw [List.take_succ_eq_append_getElem hlt]
        congr 2
        rw [List.drop_eq_getElem_cons hlt] at hvd
        exact (List.cons.inj hvd).1
      rw [e1, List.reverse_append]
      rfl
    rw [htk] at hC
    rw [hvd] at hr
    rcases v with a | a | q | z
    · exact hr.elim
    · exact hr.elim
    · refine o_callI C hM hf hst hr (by rw [List.length_reverse, List.length_take]; omega) g4 g1 g2 hd1 hd2 hnm (Option.isNone_iff_eq_none.mp hv) hd hC (fun r H' hq => ?_)
      rw [show (Pret x.toNat).isNone = (y.toNat % 2 == 1) by rw [hv, hvo]; rfl]
      exact hkk _ _ _ _ _ hq
    · exact hr.elim
end SUB
theorem sw2_I (x : Int) : sw2 (vI x) = false := rfl
set_option maxHeartbeats 4000000 in
theorem stp_sound {p : Program} {l : Launch} {e : Env} {R : Room} {s : State} {m : MethodId} {args : Array Value} {below : List Frame} {meth : Method} {c : Code} {Qw : State → Prop} {cc : ByteArray} {nL own b0 : Nat} {zad : Nat → Nat} {cs : Nat → ClassId} {D : va_G} {sc : List Int} {pc k n : Nat} {ls : LV} {st : List V} {H : HS} {d : Nat} {ret : Option FieldType} {ini : Bool}
    {J : Nat → Nat → Nat → LV → List V → HS → Prop} {Rt : V → HS → Prop} {kk : Nat → Nat → LV → List V → HS → Prop} {ins : Instr} {len : Nat} {x y : Int}
    (C : CX p s m args c cc nL own b0 zad cs D sc) (hd1 : d + 1 ≤ R.frames) (hd2 : 80 * (d + 1) ≤ R.locals) (hini : ini = true → meth.name = "<init>")
    (hJ : ∀ pc k n ls st H, J pc k n ls st H → GW p l e R s m args below meth c Qw b0 zad cs D nL pc k n ls st H)
    (hRi : ∀ pc k n ls a H, decode cc pc = .ok (.ireturn, 1) → retx ret ≠ 9 → rok (retx ret) a → Rt (vI a) H → GW p l e R s m args below meth c Qw b0 zad cs D nL pc k n ls [vI a] H)
    (hRl : ∀ pc k n ls a H, decode cc pc = .ok (.lreturn, 1) → ret = some .long → Rt (vL a) H → GW p l e R s m args below meth c Qw b0 zad cs D nL pc k n ls [vL a] H)
    (hRa : ∀ pc k n ls a H rt, decode cc pc = .ok (.areturn, 1) → ret = some rt → isRefT rt = true → Rt (.inr (.inr a)) H → GW p l e R s m args below meth c Qw b0 zad cs D nL pc k n ls [.inr (.inr a)] H)
    (hRv : ∀ pc k n ls H, decode cc pc = .ok (.return_, 1) → ret = none → Rt (vI 0) H → GW p l e R s m args below meth c Qw b0 zad cs D nL pc k n ls [] H)
    (hd : decode cc pc = .ok (ins, len)) (hlen : ilen ins = 0 ∨ len = ilen ins) (hok : okC own ret ini pc ins x y = true) (hnop : ins ≠ .nop)
    (hkk : ∀ k n ls st H, kk k n ls st H → GW p l e R s m args below meth c Qw b0 zad cs D nL (pc + len) k n ls st H) (h : stp sc J Rt (CallM d) pc ins x y kk k n ls st H) : GW p l e R s m args below meth c Qw b0 zad cs D nL pc k n ls st H := by
  cases ins
  all_goals (try exact absurd rfl hnop)
  all_goals (try exact False.elim h)
  case iconst c =>
    obtain rfl : len = 1 := hlen.resolve_left (show ¬ (1 : Nat) = 0 by decide)
    exact o_iconst C hd (hkk _ _ _ _ _ h)
  case bipush c =>
    obtain rfl : len = 2 := hlen.resolve_left (show ¬ (2 : Nat) = 0 by decide)
    exact o_bipush (of_decide_eq_true hok) C hd (hkk _ _ _ _ _ h)
  case sipush c =>
    obtain rfl : len = 3 := hlen.resolve_left (show ¬ (3 : Nat) = 0 by decide)
    exact o_sipush (of_decide_eq_true hok) C hd (hkk _ _ _ _ _ h)
  case lconst c =>
    obtain rfl : len = 1 := hlen.resolve_left (show ¬ (1 : Nat) = 0 by decide)
    exact o_lconst C hd (hkk _ _ _ _ _ h)
  case aconst_null =>
    obtain rfl : len = 1 := hlen.resolve_left (show ¬ (1 : Nat) = 0 by decide)
    exact o_aconst C hd (hkk _ _ _ _ _ h)
  case ldc i =>
    obtain rfl : len = 2 := hlen.resolve_left (show ¬ (2 : Nat) = 0 by decide)
    simp only [stp] at h
    simp only [okC] at hok
    split at h
    · exact o_ldc (ic_in hok) C hd (hkk _ _ _ _ _ h)
    · rename_i hy
      split at hok
      · exact absurd rfl (hy)
      · simp only [Bool.and_eq_true, beq_iff_eq, decide_eq_true_eq] at hok
        exact o_ldcS hok.1.1 hok.1.2 hok.2 C hd (hkk _ _ _ _ _ h)
  case ldc_w i =>
    obtain rfl : len = 3 := hlen.resolve_left (show ¬ (3 : Nat) = 0 by decide)
    exact o_ldcw (ic_in hok) C hd (hkk _ _ _ _ _ h)
  case ldc2_w i =>
    obtain rfl : len = 3 := hlen.resolve_left (show ¬ (3 : Nat) = 0 by decide)
    exact o_ldc2 (lc_in hok) C hd (hkk _ _ _ _ _ h)
  case iload i =>
    obtain rfl : len = 2 := hlen.resolve_left (show ¬ (2 : Nat) = 0 by decide)
    simp only [stp] at h
    split at h
    · rename_i hv
      exact o_iload hv C hd (hkk _ _ _ _ _ h)
    · exact h.elim
  case iload_n i =>
    obtain rfl : len = 1 := hlen.resolve_left (show ¬ (1 : Nat) = 0 by decide)
    simp only [stp] at h
    split at h
    · rename_i hv
      exact o_iload_n hv C hd (hkk _ _ _ _ _ h)
    · exact h.elim
  case istore i =>
    obtain rfl : len = 2 := hlen.resolve_left (show ¬ (2 : Nat) = 0 by decide)
    simp only [stp] at h
    split at h
    · exact o_istore C h.1 hd (hkk _ _ _ _ _ h.2)
    · exact h.elim
  case istore_n i =>
    obtain rfl : len = 1 := hlen.resolve_left (show ¬ (1 : Nat) = 0 by decide)
    simp only [stp] at h
    split at h
    · exact o_istore_n C h.1 hd (hkk _ _ _ _ _ h.2)
    · exact h.elim
  case lload i =>
    obtain rfl : len = 2 := hlen.resolve_left (show ¬ (2 : Nat) = 0 by decide)
    simp only [stp] at h
    split at h
    · rename_i hv
      exact o_lload hv C hd (hkk _ _ _ _ _ h)
    · exact h.elim
  case lload_n i =>
    obtain rfl : len = 1 := hlen.resolve_left (show ¬ (1 : Nat) = 0 by decide)
    simp only [stp] at h
    split at h
    · rename_i hv
      exact o_lload_n hv C hd (hkk _ _ _ _ _ h)
    · exact h.elim
  case lstore i =>
    obtain rfl : len = 2 := hlen.resolve_left (show ¬ (2 : Nat) = 0 by decide)
    simp only [stp] at h
    split at h
    · exact o_lstore C h.1 hd (hkk _ _ _ _ _ h.2)
    · exact h.elim
  case lstore_n i =>
    obtain rfl : len = 1 := hlen.resolve_left (show ¬ (1 : Nat) = 0 by decide)
    simp only [stp] at h
    split at h
    · exact o_lstore_n C h.1 hd (hkk _ _ _ _ _ h.2)
    · exact h.elim
  case aload i =>
    obtain rfl : len = 2 := hlen.resolve_left (show ¬ (2 : Nat) = 0 by decide)
    simp only [stp] at h
    split at h
    · rename_i hv
      exact o_aload C hv hd (hkk _ _ _ _ _ h)
    · exact h.elim
  case aload_n i =>
    obtain rfl : len = 1 := hlen.resolve_left (show ¬ (1 : Nat) = 0 by decide)
    simp only [stp] at h
    split at h
    · rename_i hv
      exact o_aload_n C hv hd (hkk _ _ _ _ _ h)
    · exact h.elim
  case astore i =>
    obtain rfl : len = 2 := hlen.resolve_left (show ¬ (2 : Nat) = 0 by decide)
    simp only [stp] at h
    split at h
    · exact o_astore C h.1 hd (hkk _ _ _ _ _ h.2)
    · exact h.elim
  case astore_n i =>
    obtain rfl : len = 1 := hlen.resolve_left (show ¬ (1 : Nat) = 0 by decide)
    simp only [stp] at h
    split at h
    · exact o_astore_n C h.1 hd (hkk _ _ _ _ _ h.2)
    · exact h.elim
  case iinc i a =>
    obtain rfl : len = 3 := hlen.resolve_left (show ¬ (3 : Nat) = 0 by decide)
    simp only [stp] at h
    split at h
    · rename_i hv
      exact o_iinc C hv hd (hkk _ _ _ _ _ h)
    · exact h.elim
  case iadd =>
    obtain rfl : len = 1 := hlen.resolve_left (show ¬ (1 : Nat) = 0 by decide)
    simp only [stp] at h
    split at h
    · exact o_iadd C hd (hkk _ _ _ _ _ h)
    · exact h.elim
  case isub =>
    obtain rfl : len = 1 := hlen.resolve_left (show ¬ (1 : Nat) = 0 by decide)
    simp only [stp] at h
    split at h
    · exact o_isub C hd (hkk _ _ _ _ _ h)
    · exact h.elim
  case imul =>
    obtain rfl : len = 1 := hlen.resolve_left (show ¬ (1 : Nat) = 0 by decide)
    simp only [stp] at h
    split at h
    · exact o_imul C hd (hkk _ _ _ _ _ h)
    · exact h.elim
  case ineg =>
    obtain rfl : len = 1 := hlen.resolve_left (show ¬ (1 : Nat) = 0 by decide)
    simp only [stp] at h
    split at h
    · exact o_ineg C hd (hkk _ _ _ _ _ h)
    · exact h.elim
  case iand =>
    obtain rfl : len = 1 := hlen.resolve_left (show ¬ (1 : Nat) = 0 by decide)
    simp only [stp] at h
    split at h
    · exact o_iand C hd (hkk _ _ _ _ _ h)
    · exact h.elim
  case ior =>
    obtain rfl : len = 1 := hlen.resolve_left (show ¬ (1 : Nat) = 0 by decide)
    simp only [stp] at h
    split at h
    · exact o_ior C hd (hkk _ _ _ _ _ h)
    · exact h.elim
  case ixor =>
    obtain rfl : len = 1 := hlen.resolve_left (show ¬ (1 : Nat) = 0 by decide)
    simp only [stp] at h
    split at h
    · exact o_ixor C hd (hkk _ _ _ _ _ h)
    · exact h.elim
  case ladd =>
    obtain rfl : len = 1 := hlen.resolve_left (show ¬ (1 : Nat) = 0 by decide)
    simp only [stp] at h
    split at h
    · exact o_ladd C hd (hkk _ _ _ _ _ h)
    · exact h.elim
  case lsub =>
    obtain rfl : len = 1 := hlen.resolve_left (show ¬ (1 : Nat) = 0 by decide)
    simp only [stp] at h
    split at h
    · exact o_lsub C hd (hkk _ _ _ _ _ h)
    · exact h.elim
  case lmul =>
    obtain rfl : len = 1 := hlen.resolve_left (show ¬ (1 : Nat) = 0 by decide)
    simp only [stp] at h
    split at h
    · exact o_lmul C hd (hkk _ _ _ _ _ h)
    · exact h.elim
  case lneg =>
    obtain rfl : len = 1 := hlen.resolve_left (show ¬ (1 : Nat) = 0 by decide)
    simp only [stp] at h
    split at h
    · exact o_lneg C hd (hkk _ _ _ _ _ h)
    · exact h.elim
  case lor =>
    obtain rfl : len = 1 := hlen.resolve_left (show ¬ (1 : Nat) = 0 by decide)
    simp only [stp] at h
    split at h
    · exact o_lor C hd (hkk _ _ _ _ _ h)
    · exact h.elim
  case l2i =>
    obtain rfl : len = 1 := hlen.resolve_left (show ¬ (1 : Nat) = 0 by decide)
    simp only [stp] at h
    split at h
    · exact o_l2i C hd (hkk _ _ _ _ _ h)
    · exact h.elim
  case idiv =>
    obtain rfl : len = 1 := hlen.resolve_left (show ¬ (1 : Nat) = 0 by decide)
    simp only [stp] at h
    split at h
    · exact o_idiv h.1.1 h.1.2.1 h.1.2.2 C hd (hkk _ _ _ _ _ h.2)
    · exact h.elim
  case irem =>
    obtain rfl : len = 1 := hlen.resolve_left (show ¬ (1 : Nat) = 0 by decide)
    simp only [stp] at h
    split at h
    · exact o_irem h.1.1 h.1.2.1 h.1.2.2 C hd (hkk _ _ _ _ _ h.2)
    · exact h.elim
  case ldiv =>
    obtain rfl : len = 1 := hlen.resolve_left (show ¬ (1 : Nat) = 0 by decide)
    simp only [stp] at h
    split at h
    · exact o_ldiv h.1.1 h.1.2.1 h.1.2.2 C hd (hkk _ _ _ _ _ h.2)
    · exact h.elim
  case lrem =>
    obtain rfl : len = 1 := hlen.resolve_left (show ¬ (1 : Nat) = 0 by decide)
    simp only [stp] at h
    split at h
    · exact o_lrem h.1.1 h.1.2.1 h.1.2.2 C hd (hkk _ _ _ _ _ h.2)
    · exact h.elim
  case ishl =>
    obtain rfl : len = 1 := hlen.resolve_left (show ¬ (1 : Nat) = 0 by decide)
    simp only [stp] at h
    split at h
    · exact o_ishl h.1.1 h.1.2 C hd (hkk _ _ _ _ _ h.2)
    · exact h.elim
  case lshl =>
    obtain rfl : len = 1 := hlen.resolve_left (show ¬ (1 : Nat) = 0 by decide)
    simp only [stp] at h
    split at h
    · exact o_lshl h.1.1 h.1.2 C hd (hkk _ _ _ _ _ h.2)
    · exact h.elim
  case i2c =>
    obtain rfl : len = 1 := hlen.resolve_left (show ¬ (1 : Nat) = 0 by decide)
    simp only [stp] at h
    split at h
    · exact o_i2c h.1.1 h.1.2 C hd (hkk _ _ _ _ _ h.2)
    · exact h.elim
  case ishr =>
    obtain rfl : len = 1 := hlen.resolve_left (show ¬ (1 : Nat) = 0 by decide)
    simp only [stp] at h
    split at h
    · exact o_ishr h.1.1 h.1.2.1 h.1.2.2 C hd (hkk _ _ _ _ _ h.2)
    · exact h.elim
  case lshr =>
    obtain rfl : len = 1 := hlen.resolve_left (show ¬ (1 : Nat) = 0 by decide)
    simp only [stp] at h
    split at h
    · exact o_lshr h.1.1 h.1.2.1 h.1.2.2 C hd (hkk _ _ _ _ _ h.2)
    · exact h.elim
  case lcmp =>
    obtain rfl : len = 1 := hlen.resolve_left (show ¬ (1 : Nat) = 0 by decide)
    simp only [stp] at h
    split at h
    · exact o_lcmp h.1.1 h.1.2 C hd (hkk _ _ _ _ _ h.2)
    · exact h.elim
  case i2l =>
    obtain rfl : len = 1 := hlen.resolve_left (show ¬ (1 : Nat) = 0 by decide)
    simp only [stp] at h
    split at h
    · exact o_i2l h.1 C hd (hkk _ _ _ _ _ h.2)
    · exact h.elim
  case dup =>
    obtain rfl : len = 1 := hlen.resolve_left (show ¬ (1 : Nat) = 0 by decide)
    rcases st with _ | ⟨v, st⟩
    · exact h.elim
    · rcases v with a | a | a
      · exact o_dup rfl C hd (hkk _ _ _ _ _ h)
      · exact h.elim
      · exact o_dup rfl C hd (hkk _ _ _ _ _ h)
  case pop =>
    obtain rfl : len = 1 := hlen.resolve_left (show ¬ (1 : Nat) = 0 by decide)
    rcases st with _ | ⟨v, st⟩
    · exact h.elim
    · rcases v with a | a | a
      · exact o_pop rfl C hd (hkk _ _ _ _ _ h)
      · exact h.elim
      · exact o_pop rfl C hd (hkk _ _ _ _ _ h)
  case dup2 =>
    obtain rfl : len = 1 := hlen.resolve_left (show ¬ (1 : Nat) = 0 by decide)
    rcases st with _ | ⟨v, st⟩
    · exact h.elim
    · rcases v with a | a | a
      · rcases st with _ | ⟨w, st⟩
        · exact h.elim
        · rcases w with w | w | w
          · exact o_dup2b rfl rfl C hd (hkk _ _ _ _ _ h)
          · exact h.elim
          · exact o_dup2b rfl rfl C hd (hkk _ _ _ _ _ h)
      · exact o_dup2 C hd (hkk _ _ _ _ _ h)
      · rcases st with _ | ⟨w, st⟩
        · exact h.elim
        · rcases w with w | w | w
          · exact o_dup2b rfl rfl C hd (hkk _ _ _ _ _ h)
          · exact h.elim
          · exact o_dup2b rfl rfl C hd (hkk _ _ _ _ _ h)
  case goto off =>
    obtain rfl : len = 3 := hlen.resolve_left (show ¬ (3 : Nat) = 0 by decide)
    exact o_goto C (of_decide_eq_true hok) hd (hJ _ _ _ _ _ _ h)
  case ifCond cd off =>
    obtain rfl : len = 3 := hlen.resolve_left (show ¬ (3 : Nat) = 0 by decide)
    simp only [stp] at h
    split at h
    · cases cd
      · exact o_if_eq C (of_decide_eq_true hok) h.1 hd (fun q => hJ _ _ _ _ _ _ (h.2.1 q)) (fun q => hkk _ _ _ _ _ (h.2.2 q))
      · exact o_if_ne C (of_decide_eq_true hok) h.1 hd (fun q => hJ _ _ _ _ _ _ (h.2.1 q)) (fun q => hkk _ _ _ _ _ (h.2.2 q))
      · exact o_if_lt C (of_decide_eq_true hok) h.1 hd (fun q => hJ _ _ _ _ _ _ (h.2.1 q)) (fun q => hkk _ _ _ _ _ (h.2.2 q))
      · exact o_if_ge C (of_decide_eq_true hok) h.1 hd (fun q => hJ _ _ _ _ _ _ (h.2.1 q)) (fun q => hkk _ _ _ _ _ (h.2.2 q))
      · exact o_if_gt C (of_decide_eq_true hok) h.1 hd (fun q => hJ _ _ _ _ _ _ (h.2.1 q)) (fun q => hkk _ _ _ _ _ (h.2.2 q))
      · exact o_if_le C (of_decide_eq_true hok) h.1 hd (fun q => hJ _ _ _ _ _ _ (h.2.1 q)) (fun q => hkk _ _ _ _ _ (h.2.2 q))
    · exact h.elim
  case if_icmp cd off =>
    obtain rfl : len = 3 := hlen.resolve_left (show ¬ (3 : Nat) = 0 by decide)
    simp only [stp] at h
    split at h
    · cases cd
      · exact o_icmp_eq C (of_decide_eq_true hok) h.1.1 h.1.2 hd (fun q => hJ _ _ _ _ _ _ (h.2.1 q)) (fun q => hkk _ _ _ _ _ (h.2.2 q))
      · exact o_icmp_ne C (of_decide_eq_true hok) h.1.1 h.1.2 hd (fun q => hJ _ _ _ _ _ _ (h.2.1 q)) (fun q => hkk _ _ _ _ _ (h.2.2 q))
      · exact o_icmp_lt C (of_decide_eq_true hok) h.1.1 h.1.2 hd (fun q => hJ _ _ _ _ _ _ (h.2.1 q)) (fun q => hkk _ _ _ _ _ (h.2.2 q))
      · exact o_icmp_ge C (of_decide_eq_true hok) h.1.1 h.1.2 hd (fun q => hJ _ _ _ _ _ _ (h.2.1 q)) (fun q => hkk _ _ _ _ _ (h.2.2 q))
      · exact o_icmp_gt C (of_decide_eq_true hok) h.1.1 h.1.2 hd (fun q => hJ _ _ _ _ _ _ (h.2.1 q)) (fun q => hkk _ _ _ _ _ (h.2.2 q))
      · exact o_icmp_le C (of_decide_eq_true hok) h.1.1 h.1.2 hd (fun q => hJ _ _ _ _ _ _ (h.2.1 q)) (fun q => hkk _ _ _ _ _ (h.2.2 q))
    · exact h.elim
  case ifnull off =>
    obtain rfl : len = 3 := hlen.resolve_left (show ¬ (3 : Nat) = 0 by decide)
    simp only [stp] at h
    split at h
    · exact o_ifnull C (of_decide_eq_true hok) hd (fun q => hJ _ _ _ _ _ _ (h.1 q)) (fun q => hkk _ _ _ _ _ (h.2 q))
    · exact h.elim
  case ifnonnull off =>
    obtain rfl : len = 3 := hlen.resolve_left (show ¬ (3 : Nat) = 0 by decide)
    simp only [stp] at h
    split at h
    · exact o_ifnonnull C (of_decide_eq_true hok) hd (fun q => hJ _ _ _ _ _ _ (h.1 q)) (fun q => hkk _ _ _ _ _ (h.2 q))
    · exact h.elim
  case tableswitch dd lo hi offs =>
    simp only [okC, Bool.and_eq_true, decide_eq_true_eq] at hok
    simp only [stp] at h
    split at h
    · refine o_tsw C h.1 hd hok.1 (fun o ho => of_decide_eq_true (List.all_eq_true.mp hok.2 o ho)) (fun q => hJ _ _ _ _ _ _ (h.2.1 q)) ?_
      exact swT_mono (fun q hq => hJ _ _ _ _ _ _ hq) _ _ h.2.2
    · exact h.elim
  case lookupswitch dd ps =>
    simp only [okC, Bool.and_eq_true, decide_eq_true_eq] at hok
    simp only [stp] at h
    split at h
    · refine o_lsw C h.1 hd hok.1.1 hok.1.2 (fun o ho => of_decide_eq_true (List.all_eq_true.mp hok.2 o ho)) ?_
      exact swL_mono (fun q hq => hJ _ _ _ _ _ _ hq) _ h.2
    · exact h.elim
  case ireturn =>
    obtain rfl : len = 1 := hlen.resolve_left (show ¬ (1 : Nat) = 0 by decide)
    simp only [okC, Bool.and_eq_true, beq_iff_eq, decide_eq_true_eq] at hok
    obtain ⟨hx, h9⟩ := hok
    subst hx
    simp only [stp] at h
    split at h
    · rename_i a
      have hr : rok (retx ret) a ∧ Rt (vI a) H := by
        unfold rok
        split at h
        · rename_i hx; rw [hx]; exact ⟨trivial, h⟩
        · rename_i hx; rw [hx]; exact h
        · rename_i hx1 hx2
          split
          · rename_i hz; exact absurd hz hx1
          · rename_i hz; exact absurd hz hx2
          · exact h
      exact hRi _ _ _ _ _ _ hd h9 hr.1 hr.2
    · exact h.elim
  case lreturn =>
    obtain rfl : len = 1 := hlen.resolve_left (show ¬ (1 : Nat) = 0 by decide)
    simp only [stp] at h
    split at h
    · exact hRl _ _ _ _ _ _ hd (of_decide_eq_true hok) h
    · exact h.elim
  case areturn =>
    obtain rfl : len = 1 := hlen.resolve_left (show ¬ (1 : Nat) = 0 by decide)
    simp only [stp] at h
    simp only [okC] at hok
    split at h
    · split at hok
      · exact hRa _ _ _ _ _ _ _ hd rfl hok h
      · cases hok
    · exact h.elim
  case return_ =>
    obtain rfl : len = 1 := hlen.resolve_left (show ¬ (1 : Nat) = 0 by decide)
    simp only [stp] at h
    split at h
    · exact hRv _ _ _ _ _ hd (Option.isNone_iff_eq_none.mp hok) h
    · exact h.elim
  case getfield i =>
    obtain rfl : len = 3 := hlen.resolve_left (show ¬ (3 : Nat) = 0 by decide)
    simp only [stp] at h
    simp only [okC] at hok
    split at h
    · split at hok
      · exact absurd h.1.2.1 (by decide)
      · exact absurd h.1.2.1 (by decide)
      · simp only [Bool.and_eq_true, decide_eq_true_eq] at hok
        exact o_getf C hok.1.1 hok.1.2 (ft_in hok.2) h.1.1 h.1.2.2 hd (hkk _ _ _ _ _ h.2)
    · split at h
      · simp only [Bool.and_eq_true, beq_iff_eq] at hok
        obtain ⟨ho, rfl⟩ := hok
        exact o_sval C ho h.1.1 h.1.2 hd (hkk _ _ _ _ _ h.2)
      · simp only [Bool.and_eq_true, beq_iff_eq] at hok
        obtain ⟨ho, rfl⟩ := hok
        exact o_scod C ho h.1.1 h.1.2 hd (hkk _ _ _ _ _ h.2)
      · exact h.elim
    · exact h.elim
  case putfield i =>
    obtain rfl : len = 3 := hlen.resolve_left (show ¬ (3 : Nat) = 0 by decide)
    exact putf_sound C hini hd hok hkk h
  case getstatic i =>
    obtain rfl : len = 3 := hlen.resolve_left (show ¬ (3 : Nat) = 0 by decide)
    simp only [stp] at h
    simp only [okC, Bool.and_eq_true, beq_iff_eq] at hok
    obtain ⟨ho, hok⟩ := hok
    split at h
    · simp only [Bool.and_eq_true, beq_iff_eq] at hok
      obtain ⟨rfl, rfl⟩ := hok
      exact o_gets0 C ho hd (hkk _ _ _ _ _ h)
    · rename_i hx
      split at hok
      · exact absurd rfl hx
      · simp only [beq_iff_eq] at hok
        subst hok
        exact o_gets1 C ho hd (hkk _ _ _ _ _ h.1) (hkk _ _ _ _ _ h.2)
  case iaload =>
    obtain rfl : len = 1 := hlen.resolve_left (show ¬ (1 : Nat) = 0 by decide)
    simp only [stp] at h
    split at h
    · obtain ⟨N, ⟨h0, hT⟩, ⟨hi0, hi1⟩, h⟩ := h
      exact o_iaload C h0 hT hi0 hi1 hd (hkk _ _ _ _ _ h)
    · exact o_sld C h.1.1 h.1.2 hd (hkk _ _ _ _ _ h.2)
    · exact h.elim
  case iastore =>
    obtain rfl : len = 1 := hlen.resolve_left (show ¬ (1 : Nat) = 0 by decide)
    simp only [stp] at h
    split at h
    · obtain ⟨N, ⟨h0, hT⟩, ⟨hi0, hi1⟩, h⟩ := h
      exact o_iastore C h0 hT hi0 hi1 hd (hkk _ _ _ _ _ h)
    · exact h.elim
  case laload =>
    obtain rfl : len = 1 := hlen.resolve_left (show ¬ (1 : Nat) = 0 by decide)
    simp only [stp] at h
    split at h
    · obtain ⟨N, ⟨h0, hT⟩, ⟨hi0, hi1⟩, h⟩ := h
      exact o_laload C h0 hT hi0 hi1 hd (hkk _ _ _ _ _ h)
    · exact h.elim
  case lastore =>
    obtain rfl : len = 1 := hlen.resolve_left (show ¬ (1 : Nat) = 0 by decide)
    simp only [stp] at h
    split at h
    · obtain ⟨N, ⟨h0, hT⟩, ⟨hi0, hi1⟩, h⟩ := h
      exact o_lastore C h0 hT hi0 hi1 hd (hkk _ _ _ _ _ h)
    · exact h.elim
  case aaload =>
    obtain rfl : len = 1 := hlen.resolve_left (show ¬ (1 : Nat) = 0 by decide)
    simp only [stp] at h
    split at h
    · obtain ⟨N, ⟨h0, hT⟩, ⟨hi0, hi1⟩, h⟩ := h
      exact o_aaload C h0 hT hi0 hi1 hd (hkk _ _ _ _ _ h)
    · exact h.elim
  case aastore =>
    obtain rfl : len = 1 := hlen.resolve_left (show ¬ (1 : Nat) = 0 by decide)
    simp only [stp] at h
    split at h
    · obtain ⟨N, ⟨h0, hT⟩, ⟨hi0, hi1⟩, hq, h⟩ := h
      exact o_aastore C h0 hT hi0 hi1 hq hd (hkk _ _ _ _ _ h)
    · exact h.elim
  case baload =>
    obtain rfl : len = 1 := hlen.resolve_left (show ¬ (1 : Nat) = 0 by decide)
    simp only [stp] at h
    split at h
    · obtain ⟨⟨z1, z2, z3⟩, ⟨hi0, hi1⟩, h⟩ := h
      exact o_baload C z1 z2 z3 hi0 hi1 hd (hkk _ _ _ _ _ h)
    · exact h.elim
  case arraylength =>
    obtain rfl : len = 1 := hlen.resolve_left (show ¬ (1 : Nat) = 0 by decide)
    simp only [stp] at h
    split at h
    · obtain ⟨dk, N, ⟨h0, hT, h4⟩, h⟩ := h
      exact o_alen C h0 hT h4 hd (hkk _ _ _ _ _ h)
    · split at h
      · exact o_slen C hd (hkk _ _ _ _ _ h)
      · exact o_blen C h.1.1 h.1.2 hd (hkk _ _ _ _ _ h.2)
    · exact h.elim
  case new i =>
    obtain rfl : len = 3 := hlen.resolve_left (show ¬ (3 : Nat) = 0 by decide)
    simp only [stp] at h
    simp only [okC, Bool.and_eq_true, decide_eq_true_eq] at hok
    exact o_new C hok.1.1 (cl_in hok.1.2) (in_in hok.2).1 (in_in hok.2).2 h.1.1 h.1.2 hd (hkk _ _ _ _ _ h.2)
  case newarray t =>
    obtain rfl : len = 2 := hlen.resolve_left (show ¬ (2 : Nat) = 0 by decide)
    simp only [stp] at h
    split at h
    · obtain ⟨⟨a0, a1, a2, a3⟩, h⟩ := h
      exact o_newarray_int C aci_in a0 a1 a2 a3 hd (hkk _ _ _ _ _ h)
    · obtain ⟨⟨a0, a1, a2, a3⟩, h⟩ := h
      exact o_newarray_long C acl_in a0 a1 a2 a3 hd (hkk _ _ _ _ _ h)
    · exact h.elim
  case anewarray i =>
    obtain rfl : len = 3 := hlen.resolve_left (show ¬ (3 : Nat) = 0 by decide)
    simp only [stp] at h
    split at h
    · obtain ⟨⟨a0, a1, a2, a3⟩, h⟩ := h
      exact o_anewarray C (cl_in hok) aot_in a0 a1 a2 a3 hd (hkk _ _ _ _ _ h)
    · exact h.elim
  case multianewarray i dm =>
    obtain rfl : len = 4 := hlen.resolve_left (show ¬ (4 : Nat) = 0 by decide)
    simp only [stp] at h
    split at h
    · obtain ⟨⟨a0, a1, a2, a3, a4, a5⟩, h⟩ := h
      exact o_mna C (an_in hok) a0 a1 a2 a3 a4 a5 hd (hkk _ _ _ _ _ h)
    · exact h.elim
  case invokespecial i =>
    obtain rfl : len = 3 := hlen.resolve_left (show ¬ (3 : Nat) = 0 by decide)
    exact invI_sound C hd1 hd2 hd hok hkk h
  case invokestatic i =>
    obtain rfl : len = 3 := hlen.resolve_left (show ¬ (3 : Nat) = 0 by decide)
    exact invS_sound C hd1 hd2 hd hok hkk h
  case invokevirtual i =>
    obtain rfl : len = 3 := hlen.resolve_left (show ¬ (3 : Nat) = 0 by decide)
    exact invV_sound C hd1 hd2 hd hok hkk h
