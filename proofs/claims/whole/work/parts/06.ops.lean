def sidx (k : Nat) : Nat := [88, 90, 92, 94, 96, 98, 100, 102, 104, 106, 108, 110, 112, 114, 116, 118, 120, 121, 123, 125, 127, 129, 131, 133].getD k 0
def slens : List Nat := (List.range 24).map (fun k => (sbytes k).length)
def sbyts : List (List Int32) := (List.range 24).map (fun k => (sbytes k).map Int32.ofInt)
/-- what stands outside the world: texts, statics, the script -/
def EX (b0 : Nat) (zad : Nat → Nat) (sc : List Int) (U : State) (h : Heap) : Prop :=
  vk_S 24 slens sbyts (fun k => zad (2 * k + 1)) (fun k => zad (2 * k + 2)) (fA b0) U h ∧ (∀ k : Nat, k < 24 → vk_R RX8 (sidx k) (strs.getD k "") (zad (2 * k + 1)) U) ∧
  va_Z "java/lang/String" "COMPACT_STRINGS" "Z" (.int 1) (fA b0) U h ∧ (∃ fv : Value, (fv = .ref (zad 100) ∨ fv = .null) ∧ va_Z "jdk/internal/util/Preconditions" "SIOOBE_FORMATTER" "Ljava/util/function/BiFunction;" fv (fA b0) U h) ∧
  va_X (zad 0) sc.length (fun j => Int32.ofInt (sc.getD j 0)) U h ∧ ¬ fA b0 (zad 0) ∧ sc.length ≤ 3072
def CX (p : Program) (s : State) (m : MethodId) (args : Array Value) (c : Code) (cc : ByteArray) (nL own b0 : Nat) (zad : Nat → Nat) (cs : Nat → ClassId) (D : va_G) (sc : List Int) : Prop :=
  p.tables.exec = Jvm.exec ∧ c.code = cc ∧ c.maxLocals = nL ∧ s.vm.findClass (cnm own) = some m.cls ∧ (∀ w ∈ ztbl, w.before args s = true) ∧ va_K D zcl (tysC cs) s ∧ b0 < s.heap.size ∧ EX b0 zad sc s s.heap
/-- the walk from a place of the code on -/
def GW (p : Program) (l : Launch) (e : Env) (R : Room) (s : State) (m : MethodId) (args : Array Value) (below : List Frame) (meth : Method) (c : Code) (Qw : State → Prop) (b0 : Nat) (zad : Nat → Nat) (cs : Nat → ClassId) (D : va_G) (nL : Nat) (pc k n : Nat) (ls : LV) (st : List V) (H : HS) : Prop :=
  ls.length = nL → ∀ (hp : Heap) (locs : List Loc) (lsA : Array Slot) (cells slots : Nat), WD b0 zad cs D s.heap H hp locs → lv_has lsA nL (lvl b0 zad 0 ls) → cells + k ≤ R.cells → slots + n ≤ R.slots →
    W p l e R s m args below meth c hp locs cells slots Qw (F0 m pc lsA (st.map (cv b0 zad)))
section OPS
variable {p : Program} {l : Launch} {e : Env} {R : Room} {s : State} {m : MethodId} {args : Array Value} {below : List Frame} {meth : Method} {c : Code} {Qw : State → Prop} {cc : ByteArray} {nL own b0 : Nat} {zad : Nat → Nat} {cs : Nat → ClassId} {D : va_G} {sc : List Int} {pc k n : Nat} {ls : LV} {st : List V} {H : HS}
theorem o_iconst {x : Int} (C : CX p s m args c cc nL own b0 zad cs D sc) (hd : decode cc pc = .ok (.iconst x, 1)) (K : GW p l e R s m args below meth c Qw b0 zad cs D nL (pc + 1) k n ls (vI x :: st) H) : GW p l e R s m args below meth c Qw b0 zad cs D nL pc k n ls st H := by
  intro hL hp locs lsA cells slots w hl h1 h2
  have K := K hL hp locs lsA cells slots w hl h1 h2
  obtain ⟨hx, hb, hml, hown, hts, hK, hb0, hE⟩ := C
  exact lv_iconst hx hb hd rfl K
theorem o_bipush {x : Int} (hx1 : (Int8.ofInt x).toInt32 = Int32.ofInt x) (C : CX p s m args c cc nL own b0 zad cs D sc) (hd : decode cc pc = .ok (.bipush x, 2)) (K : GW p l e R s m args below meth c Qw b0 zad cs D nL (pc + 2) k n ls (vI x :: st) H) : GW p l e R s m args below meth c Qw b0 zad cs D nL pc k n ls st H := by
  intro hL hp locs lsA cells slots w hl h1 h2
  have K := K hL hp locs lsA cells slots w hl h1 h2
  obtain ⟨hx, hb, hml, hown, hts, hK, hb0, hE⟩ := C
  exact lv_bipush hx hb hd hx1 K
theorem o_sipush {x : Int} (hx1 : (Int16.ofInt x).toInt32 = Int32.ofInt x) (C : CX p s m args c cc nL own b0 zad cs D sc) (hd : decode cc pc = .ok (.sipush x, 3)) (K : GW p l e R s m args below meth c Qw b0 zad cs D nL (pc + 3) k n ls (vI x :: st) H) : GW p l e R s m args below meth c Qw b0 zad cs D nL pc k n ls st H := by
  intro hL hp locs lsA cells slots w hl h1 h2
  have K := K hL hp locs lsA cells slots w hl h1 h2
  obtain ⟨hx, hb, hml, hown, hts, hK, hb0, hE⟩ := C
  exact lv_sipush hx hb hd hx1 K
theorem o_lconst {x : Fin 2} (C : CX p s m args c cc nL own b0 zad cs D sc) (hd : decode cc pc = .ok (.lconst x, 1)) (K : GW p l e R s m args below meth c Qw b0 zad cs D nL (pc + 1) k n ls (vL ((x : Nat) : Int) :: st) H) : GW p l e R s m args below meth c Qw b0 zad cs D nL pc k n ls st H := by
  intro hL hp locs lsA cells slots w hl h1 h2
  have K := K hL hp locs lsA cells slots w hl h1 h2
  obtain ⟨hx, hb, hml, hown, hts, hK, hb0, hE⟩ := C
  exact lv_lconst hx hb hd (by rw [Int64.ofInt_eq_ofNat]) K
theorem o_aconst  (C : CX p s m args c cc nL own b0 zad cs D sc) (hd : decode cc pc = .ok (.aconst_null, 1)) (K : GW p l e R s m args below meth c Qw b0 zad cs D nL (pc + 1) k n ls (vR 0 :: st) H) : GW p l e R s m args below meth c Qw b0 zad cs D nL pc k n ls st H := by
  intro hL hp locs lsA cells slots w hl h1 h2
  have K := K hL hp locs lsA cells slots w hl h1 h2
  obtain ⟨hx, hb, hml, hown, hts, hK, hb0, hE⟩ := C
  exact lv_null hx hb hd K
theorem o_ldc {i : Nat} {x : Int} (hw : Cond.constant (cnm own) i (Int32.ofInt x) ∈ ztbl) (C : CX p s m args c cc nL own b0 zad cs D sc) (hd : decode cc pc = .ok (.ldc i, 2)) (K : GW p l e R s m args below meth c Qw b0 zad cs D nL (pc + 2) k n ls (vI x :: st) H) : GW p l e R s m args below meth c Qw b0 zad cs D nL pc k n ls st H := by
  intro hL hp locs lsA cells slots w hl h1 h2
  have K := K hL hp locs lsA cells slots w hl h1 h2
  obtain ⟨hx, hb, hml, hown, hts, hK, hb0, hE⟩ := C
  exact lv_ldc hx hb hown (hts _ hw) hd K
theorem o_ldcw {i : Nat} {x : Int} (hw : Cond.constant (cnm own) i (Int32.ofInt x) ∈ ztbl) (C : CX p s m args c cc nL own b0 zad cs D sc) (hd : decode cc pc = .ok (.ldc_w i, 3)) (K : GW p l e R s m args below meth c Qw b0 zad cs D nL (pc + 3) k n ls (vI x :: st) H) : GW p l e R s m args below meth c Qw b0 zad cs D nL pc k n ls st H := by
  intro hL hp locs lsA cells slots w hl h1 h2
  have K := K hL hp locs lsA cells slots w hl h1 h2
  obtain ⟨hx, hb, hml, hown, hts, hK, hb0, hE⟩ := C
  exact lv_ldcw hx hb hown (hts _ hw) hd K
theorem o_ldc2 {i : Nat} {x : Int} (hw : Cond.constantLong (cnm own) i (Int64.ofInt x) ∈ ztbl) (C : CX p s m args c cc nL own b0 zad cs D sc) (hd : decode cc pc = .ok (.ldc2_w i, 3)) (K : GW p l e R s m args below meth c Qw b0 zad cs D nL (pc + 3) k n ls (vL x :: st) H) : GW p l e R s m args below meth c Qw b0 zad cs D nL pc k n ls st H := by
  intro hL hp locs lsA cells slots w hl h1 h2
  have K := K hL hp locs lsA cells slots w hl h1 h2
  obtain ⟨hx, hb, hml, hown, hts, hK, hb0, hE⟩ := C
  exact lv_ldc2 hx hb hown (hts _ hw) hd K
theorem o_ldcS {i q : Nat} (ho : own = 8) (hq : q < 24) (hi : sidx q = i) (C : CX p s m args c cc nL own b0 zad cs D sc) (hd : decode cc pc = .ok (.ldc i, 2)) (K : GW p l e R s m args below meth c Qw b0 zad cs D nL (pc + 2) k n ls (vZ (2 * q + 1) :: st) H) : GW p l e R s m args below meth c Qw b0 zad cs D nL pc k n ls st H := by
  intro hL hp locs lsA cells slots w hl h1 h2
  have K := K hL hp locs lsA cells slots w hl h1 h2
  obtain ⟨hx, hb, hml, hown, hts, hK, hb0, hE⟩ := C
  exact va_ldcS hx hb hown (by have h := hE.2.1 q hq; rw [hi] at h; rw [ho]; exact h) hd K
theorem o_iload {i : Nat} {x : Int} (hv : ls[i]? = some (some (vI x))) (C : CX p s m args c cc nL own b0 zad cs D sc) (hd : decode cc pc = .ok (.iload i, 2)) (K : GW p l e R s m args below meth c Qw b0 zad cs D nL (pc + 2) k n ls (vI x :: st) H) : GW p l e R s m args below meth c Qw b0 zad cs D nL pc k n ls st H := by
  intro hL hp locs lsA cells slots w hl h1 h2
  have K := K hL hp locs lsA cells slots w hl h1 h2
  obtain ⟨hx, hb, hml, hown, hts, hK, hb0, hE⟩ := C
  exact lv_iload hx hb hd (lvl_at hl hv) K
theorem o_iload_n {i : Fin 4} {x : Int} (hv : ls[(i : Nat)]? = some (some (vI x))) (C : CX p s m args c cc nL own b0 zad cs D sc) (hd : decode cc pc = .ok (.iload_n i, 1)) (K : GW p l e R s m args below meth c Qw b0 zad cs D nL (pc + 1) k n ls (vI x :: st) H) : GW p l e R s m args below meth c Qw b0 zad cs D nL pc k n ls st H := by
  intro hL hp locs lsA cells slots w hl h1 h2
  have K := K hL hp locs lsA cells slots w hl h1 h2
  obtain ⟨hx, hb, hml, hown, hts, hK, hb0, hE⟩ := C
  exact lv_iload_n hx hb hd rfl (lvl_at hl hv) K
theorem o_lload {i : Nat} {x : Int} (hv : ls[i]? = some (some (vL x))) (C : CX p s m args c cc nL own b0 zad cs D sc) (hd : decode cc pc = .ok (.lload i, 2)) (K : GW p l e R s m args below meth c Qw b0 zad cs D nL (pc + 2) k n ls (vL x :: st) H) : GW p l e R s m args below meth c Qw b0 zad cs D nL pc k n ls st H := by
  intro hL hp locs lsA cells slots w hl h1 h2
  have K := K hL hp locs lsA cells slots w hl h1 h2
  obtain ⟨hx, hb, hml, hown, hts, hK, hb0, hE⟩ := C
  exact lv_lload hx hb hd (lvl_at hl hv) K
theorem o_lload_n {i : Fin 4} {x : Int} (hv : ls[(i : Nat)]? = some (some (vL x))) (C : CX p s m args c cc nL own b0 zad cs D sc) (hd : decode cc pc = .ok (.lload_n i, 1)) (K : GW p l e R s m args below meth c Qw b0 zad cs D nL (pc + 1) k n ls (vL x :: st) H) : GW p l e R s m args below meth c Qw b0 zad cs D nL pc k n ls st H := by
  intro hL hp locs lsA cells slots w hl h1 h2
  have K := K hL hp locs lsA cells slots w hl h1 h2
  obtain ⟨hx, hb, hml, hown, hts, hK, hb0, hE⟩ := C
  exact lv_lload_n hx hb hd rfl (lvl_at hl hv) K
theorem o_istore {i : Nat} {x : Int} (C : CX p s m args c cc nL own b0 zad cs D sc) (hi : i < ls.length) (hd : decode cc pc = .ok (.istore i, 2)) (K : GW p l e R s m args below meth c Qw b0 zad cs D nL (pc + 2) k n (lput ls i (vI x)) st H) : GW p l e R s m args below meth c Qw b0 zad cs D nL pc k n ls (vI x :: st) H := by
  intro hL hp locs lsA cells slots w hl h1 h2
  obtain ⟨hx, hb, hml, hown, hts, hK, hb0, hE⟩ := C
  exact lv_istore hx hb hd hl (by omega) rfl (fun lsB hB => K (by rw [lput_len]; exact hL) hp locs lsB cells slots w (lv_mono hB lvl_put) h1 h2)
theorem o_istore_n {i : Fin 4} {x : Int} (C : CX p s m args c cc nL own b0 zad cs D sc) (hi : (i : Nat) < ls.length) (hd : decode cc pc = .ok (.istore_n i, 1)) (K : GW p l e R s m args below meth c Qw b0 zad cs D nL (pc + 1) k n (lput ls (i : Nat) (vI x)) st H) : GW p l e R s m args below meth c Qw b0 zad cs D nL pc k n ls (vI x :: st) H := by
  intro hL hp locs lsA cells slots w hl h1 h2
  obtain ⟨hx, hb, hml, hown, hts, hK, hb0, hE⟩ := C
  exact lv_istore_n hx hb hd rfl hl (by omega) rfl (fun lsB hB => K (by rw [lput_len]; exact hL) hp locs lsB cells slots w (lv_mono hB lvl_put) h1 h2)
theorem o_lstore {i : Nat} {x : Int} (C : CX p s m args c cc nL own b0 zad cs D sc) (hi : i + 1 < ls.length) (hd : decode cc pc = .ok (.lstore i, 2)) (K : GW p l e R s m args below meth c Qw b0 zad cs D nL (pc + 2) k n (lput2 ls i (vL x)) st H) : GW p l e R s m args below meth c Qw b0 zad cs D nL pc k n ls (vL x :: st) H := by
  intro hL hp locs lsA cells slots w hl h1 h2
  obtain ⟨hx, hb, hml, hown, hts, hK, hb0, hE⟩ := C
  exact lv_lstore hx hb hd hl (by omega) rfl (fun lsB hB => K (by rw [lput2_len]; exact hL) hp locs lsB cells slots w (lv_mono hB lvl_put2) h1 h2)
theorem o_lstore_n {i : Fin 4} {x : Int} (C : CX p s m args c cc nL own b0 zad cs D sc) (hi : (i : Nat) + 1 < ls.length) (hd : decode cc pc = .ok (.lstore_n i, 1)) (K : GW p l e R s m args below meth c Qw b0 zad cs D nL (pc + 1) k n (lput2 ls (i : Nat) (vL x)) st H) : GW p l e R s m args below meth c Qw b0 zad cs D nL pc k n ls (vL x :: st) H := by
  intro hL hp locs lsA cells slots w hl h1 h2
  obtain ⟨hx, hb, hml, hown, hts, hK, hb0, hE⟩ := C
  exact lv_lstore_n hx hb hd rfl hl (by omega) rfl (fun lsB hB => K (by rw [lput2_len]; exact hL) hp locs lsB cells slots w (lv_mono hB lvl_put2) h1 h2)
theorem o_iinc {i : Nat} {x a : Int} (C : CX p s m args c cc nL own b0 zad cs D sc) (hv : ls[i]? = some (some (vI x))) (hd : decode cc pc = .ok (.iinc i a, 3)) (K : GW p l e R s m args below meth c Qw b0 zad cs D nL (pc + 3) k n (lput ls i (vI (x + a))) st H) : GW p l e R s m args below meth c Qw b0 zad cs D nL pc k n ls st H := by
  intro hL hp locs lsA cells slots w hl h1 h2
  obtain ⟨hx, hb, hml, hown, hts, hK, hb0, hE⟩ := C
  have hi : i < ls.length := (List.getElem?_eq_some_iff.mp hv).1
  obtain ⟨q, hq⟩ := List.getElem?_of_mem ((mem_lvl (b0 := b0) (zad := zad) (i, cv b0 zad (vI x)) ls 0).mpr ⟨i, vI x, hv, by simp⟩)
  exact lv_iinc hx hb hd hl hq (Int32.ofInt_add x a).symm (by omega) rfl (fun lsB hB => K (by rw [lput_len]; exact hL) hp locs lsB cells slots w (lv_mono hB lvl_put) h1 h2)
theorem o_iadd {a b : Int} (C : CX p s m args c cc nL own b0 zad cs D sc) (hd : decode cc pc = .ok (.iadd, 1)) (K : GW p l e R s m args below meth c Qw b0 zad cs D nL (pc + 1) k n ls (vI (a + b) :: st) H) : GW p l e R s m args below meth c Qw b0 zad cs D nL pc k n ls (vI b :: vI a :: st) H := by
  intro hL hp locs lsA cells slots w hl h1 h2
  have K := K hL hp locs lsA cells slots w hl h1 h2
  obtain ⟨hx, hb, hml, hown, hts, hK, hb0, hE⟩ := C
  exact lv_iadd hx hb hd (by rw [← Int32.ofInt_add]; exact K)
theorem o_isub {a b : Int} (C : CX p s m args c cc nL own b0 zad cs D sc) (hd : decode cc pc = .ok (.isub, 1)) (K : GW p l e R s m args below meth c Qw b0 zad cs D nL (pc + 1) k n ls (vI (a - b) :: st) H) : GW p l e R s m args below meth c Qw b0 zad cs D nL pc k n ls (vI b :: vI a :: st) H := by
  intro hL hp locs lsA cells slots w hl h1 h2
  have K := K hL hp locs lsA cells slots w hl h1 h2
  obtain ⟨hx, hb, hml, hown, hts, hK, hb0, hE⟩ := C
  exact lv_isub hx hb hd (by rw [← Int32.ofInt_sub]; exact K)
theorem o_imul {a b : Int} (C : CX p s m args c cc nL own b0 zad cs D sc) (hd : decode cc pc = .ok (.imul, 1)) (K : GW p l e R s m args below meth c Qw b0 zad cs D nL (pc + 1) k n ls (vI (a * b) :: st) H) : GW p l e R s m args below meth c Qw b0 zad cs D nL pc k n ls (vI b :: vI a :: st) H := by
  intro hL hp locs lsA cells slots w hl h1 h2
  have K := K hL hp locs lsA cells slots w hl h1 h2
  obtain ⟨hx, hb, hml, hown, hts, hK, hb0, hE⟩ := C
  exact lv_imul hx hb hd (by rw [← Int32.ofInt_mul]; exact K)
theorem o_iand {a b : Int} (C : CX p s m args c cc nL own b0 zad cs D sc) (hd : decode cc pc = .ok (.iand, 1)) (K : GW p l e R s m args below meth c Qw b0 zad cs D nL (pc + 1) k n ls (vI (iand a b) :: st) H) : GW p l e R s m args below meth c Qw b0 zad cs D nL pc k n ls (vI b :: vI a :: st) H := by
  intro hL hp locs lsA cells slots w hl h1 h2
  have K := K hL hp locs lsA cells slots w hl h1 h2
  obtain ⟨hx, hb, hml, hown, hts, hK, hb0, hE⟩ := C
  exact lv_iand hx hb hd (by rw [← z_and]; exact K)
theorem o_ior {a b : Int} (C : CX p s m args c cc nL own b0 zad cs D sc) (hd : decode cc pc = .ok (.ior, 1)) (K : GW p l e R s m args below meth c Qw b0 zad cs D nL (pc + 1) k n ls (vI (ior a b) :: st) H) : GW p l e R s m args below meth c Qw b0 zad cs D nL pc k n ls (vI b :: vI a :: st) H := by
  intro hL hp locs lsA cells slots w hl h1 h2
  have K := K hL hp locs lsA cells slots w hl h1 h2
  obtain ⟨hx, hb, hml, hown, hts, hK, hb0, hE⟩ := C
  exact lv_ior hx hb hd (by rw [← z_or]; exact K)
theorem o_ixor {a b : Int} (C : CX p s m args c cc nL own b0 zad cs D sc) (hd : decode cc pc = .ok (.ixor, 1)) (K : GW p l e R s m args below meth c Qw b0 zad cs D nL (pc + 1) k n ls (vI (ixor a b) :: st) H) : GW p l e R s m args below meth c Qw b0 zad cs D nL pc k n ls (vI b :: vI a :: st) H := by
  intro hL hp locs lsA cells slots w hl h1 h2
  have K := K hL hp locs lsA cells slots w hl h1 h2
  obtain ⟨hx, hb, hml, hown, hts, hK, hb0, hE⟩ := C
  exact lv_ixor hx hb hd (by rw [← z_xor]; exact K)
theorem o_ladd {a b : Int} (C : CX p s m args c cc nL own b0 zad cs D sc) (hd : decode cc pc = .ok (.ladd, 1)) (K : GW p l e R s m args below meth c Qw b0 zad cs D nL (pc + 1) k n ls (vL (a + b) :: st) H) : GW p l e R s m args below meth c Qw b0 zad cs D nL pc k n ls (vL b :: vL a :: st) H := by
  intro hL hp locs lsA cells slots w hl h1 h2
  have K := K hL hp locs lsA cells slots w hl h1 h2
  obtain ⟨hx, hb, hml, hown, hts, hK, hb0, hE⟩ := C
  exact lv_ladd hx hb hd (by rw [← Int64.ofInt_add]; exact K)
theorem o_lsub {a b : Int} (C : CX p s m args c cc nL own b0 zad cs D sc) (hd : decode cc pc = .ok (.lsub, 1)) (K : GW p l e R s m args below meth c Qw b0 zad cs D nL (pc + 1) k n ls (vL (a - b) :: st) H) : GW p l e R s m args below meth c Qw b0 zad cs D nL pc k n ls (vL b :: vL a :: st) H := by
  intro hL hp locs lsA cells slots w hl h1 h2
  have K := K hL hp locs lsA cells slots w hl h1 h2
  obtain ⟨hx, hb, hml, hown, hts, hK, hb0, hE⟩ := C
  exact lv_lsub hx hb hd (by rw [← Int64.ofInt_sub]; exact K)
theorem o_lmul {a b : Int} (C : CX p s m args c cc nL own b0 zad cs D sc) (hd : decode cc pc = .ok (.lmul, 1)) (K : GW p l e R s m args below meth c Qw b0 zad cs D nL (pc + 1) k n ls (vL (a * b) :: st) H) : GW p l e R s m args below meth c Qw b0 zad cs D nL pc k n ls (vL b :: vL a :: st) H := by
  intro hL hp locs lsA cells slots w hl h1 h2
  have K := K hL hp locs lsA cells slots w hl h1 h2
  obtain ⟨hx, hb, hml, hown, hts, hK, hb0, hE⟩ := C
  exact lv_lmul hx hb hd (by rw [← Int64.ofInt_mul]; exact K)
theorem o_lor {a b : Int} (C : CX p s m args c cc nL own b0 zad cs D sc) (hd : decode cc pc = .ok (.lor, 1)) (K : GW p l e R s m args below meth c Qw b0 zad cs D nL (pc + 1) k n ls (vL (lor a b) :: st) H) : GW p l e R s m args below meth c Qw b0 zad cs D nL pc k n ls (vL b :: vL a :: st) H := by
  intro hL hp locs lsA cells slots w hl h1 h2
  have K := K hL hp locs lsA cells slots w hl h1 h2
  obtain ⟨hx, hb, hml, hown, hts, hK, hb0, hE⟩ := C
  exact lv_lor hx hb hd (by rw [← z_lor]; exact K)
theorem o_ineg {a : Int} (C : CX p s m args c cc nL own b0 zad cs D sc) (hd : decode cc pc = .ok (.ineg, 1)) (K : GW p l e R s m args below meth c Qw b0 zad cs D nL (pc + 1) k n ls (vI (-a) :: st) H) : GW p l e R s m args below meth c Qw b0 zad cs D nL pc k n ls (vI a :: st) H := by
  intro hL hp locs lsA cells slots w hl h1 h2
  have K := K hL hp locs lsA cells slots w hl h1 h2
  obtain ⟨hx, hb, hml, hown, hts, hK, hb0, hE⟩ := C
  exact lv_ineg hx hb hd (by rw [← Int32.ofInt_neg]; exact K)
theorem o_lneg {a : Int} (C : CX p s m args c cc nL own b0 zad cs D sc) (hd : decode cc pc = .ok (.lneg, 1)) (K : GW p l e R s m args below meth c Qw b0 zad cs D nL (pc + 1) k n ls (vL (-a) :: st) H) : GW p l e R s m args below meth c Qw b0 zad cs D nL pc k n ls (vL a :: st) H := by
  intro hL hp locs lsA cells slots w hl h1 h2
  have K := K hL hp locs lsA cells slots w hl h1 h2
  obtain ⟨hx, hb, hml, hown, hts, hK, hb0, hE⟩ := C
  exact lv_lneg hx hb hd (by rw [← Int64.ofInt_neg]; exact K)
theorem o_idiv {a b : Int} (ha : i32 a) (hb1 : i32 b) (hne : b ≠ 0) (C : CX p s m args c cc nL own b0 zad cs D sc) (hd : decode cc pc = .ok (.idiv, 1)) (K : GW p l e R s m args below meth c Qw b0 zad cs D nL (pc + 1) k n ls (vI (a.tdiv b) :: st) H) : GW p l e R s m args below meth c Qw b0 zad cs D nL pc k n ls (vI b :: vI a :: st) H := by
  intro hL hp locs lsA cells slots w hl h1 h2
  have K := K hL hp locs lsA cells slots w hl h1 h2
  obtain ⟨hx, hb, hml, hown, hts, hK, hb0, hE⟩ := C
  exact lv_idiv hx hb hd (fun q => hne ((z_eq hb1 (by decide)).mp (q.trans (by decide : (0 : Int32) = Int32.ofInt 0)))) (by rw [← z_div ha hb1]; exact K)
theorem o_irem {a b : Int} (ha : i32 a) (hb1 : i32 b) (hne : b ≠ 0) (C : CX p s m args c cc nL own b0 zad cs D sc) (hd : decode cc pc = .ok (.irem, 1)) (K : GW p l e R s m args below meth c Qw b0 zad cs D nL (pc + 1) k n ls (vI (a.tmod b) :: st) H) : GW p l e R s m args below meth c Qw b0 zad cs D nL pc k n ls (vI b :: vI a :: st) H := by
  intro hL hp locs lsA cells slots w hl h1 h2
  have K := K hL hp locs lsA cells slots w hl h1 h2
  obtain ⟨hx, hb, hml, hown, hts, hK, hb0, hE⟩ := C
  exact lv_irem hx hb hd (fun q => hne ((z_eq hb1 (by decide)).mp (q.trans (by decide : (0 : Int32) = Int32.ofInt 0)))) (by rw [← z_rem ha hb1]; exact K)
theorem o_ldiv {a b : Int} (ha : i64 a) (hb1 : i64 b) (hne : b ≠ 0) (C : CX p s m args c cc nL own b0 zad cs D sc) (hd : decode cc pc = .ok (.ldiv, 1)) (K : GW p l e R s m args below meth c Qw b0 zad cs D nL (pc + 1) k n ls (vL (a.tdiv b) :: st) H) : GW p l e R s m args below meth c Qw b0 zad cs D nL pc k n ls (vL b :: vL a :: st) H := by
  intro hL hp locs lsA cells slots w hl h1 h2
  have K := K hL hp locs lsA cells slots w hl h1 h2
  obtain ⟨hx, hb, hml, hown, hts, hK, hb0, hE⟩ := C
  exact lv_ldiv hx hb hd (fun q => hne ((z_leq hb1 (by decide)).mp (q.trans (by decide : (0 : Int64) = Int64.ofInt 0)))) (by rw [← z_ldiv ha hb1]; exact K)
theorem o_lrem {a b : Int} (ha : i64 a) (hb1 : i64 b) (hne : b ≠ 0) (C : CX p s m args c cc nL own b0 zad cs D sc) (hd : decode cc pc = .ok (.lrem, 1)) (K : GW p l e R s m args below meth c Qw b0 zad cs D nL (pc + 1) k n ls (vL (a.tmod b) :: st) H) : GW p l e R s m args below meth c Qw b0 zad cs D nL pc k n ls (vL b :: vL a :: st) H := by
  intro hL hp locs lsA cells slots w hl h1 h2
  have K := K hL hp locs lsA cells slots w hl h1 h2
  obtain ⟨hx, hb, hml, hown, hts, hK, hb0, hE⟩ := C
  exact lv_lrem hx hb hd (fun q => hne ((z_leq hb1 (by decide)).mp (q.trans (by decide : (0 : Int64) = Int64.ofInt 0)))) (by rw [← z_lrem ha hb1]; exact K)
theorem o_ishl {a b : Int} (h3 : 0 ≤ b) (h4 : b ≤ 31) (C : CX p s m args c cc nL own b0 zad cs D sc) (hd : decode cc pc = .ok (.ishl, 1)) (K : GW p l e R s m args below meth c Qw b0 zad cs D nL (pc + 1) k n ls (vI (a * 2 ^ b.toNat) :: st) H) : GW p l e R s m args below meth c Qw b0 zad cs D nL pc k n ls (vI b :: vI a :: st) H := by
  intro hL hp locs lsA cells slots w hl h1 h2
  have K := K hL hp locs lsA cells slots w hl h1 h2
  obtain ⟨hx, hb, hml, hown, hts, hK, hb0, hE⟩ := C
  exact lv_ishl hx hb hd (by rw [← z_shl h3 h4]; exact K)
theorem o_ishr {a b : Int} (ha : i32 a) (h3 : 0 ≤ b) (h4 : b ≤ 31) (C : CX p s m args c cc nL own b0 zad cs D sc) (hd : decode cc pc = .ok (.ishr, 1)) (K : GW p l e R s m args below meth c Qw b0 zad cs D nL (pc + 1) k n ls (vI (a / 2 ^ b.toNat) :: st) H) : GW p l e R s m args below meth c Qw b0 zad cs D nL pc k n ls (vI b :: vI a :: st) H := by
  intro hL hp locs lsA cells slots w hl h1 h2
  have K := K hL hp locs lsA cells slots w hl h1 h2
  obtain ⟨hx, hb, hml, hown, hts, hK, hb0, hE⟩ := C
  exact lv_ishr hx hb hd (by rw [← z_shr ha h3 h4]; exact K)
theorem o_lshl {a b : Int} (h3 : 0 ≤ b) (h4 : b ≤ 63) (C : CX p s m args c cc nL own b0 zad cs D sc) (hd : decode cc pc = .ok (.lshl, 1)) (K : GW p l e R s m args below meth c Qw b0 zad cs D nL (pc + 1) k n ls (vL (a * 2 ^ b.toNat) :: st) H) : GW p l e R s m args below meth c Qw b0 zad cs D nL pc k n ls (vI b :: vL a :: st) H := by
  intro hL hp locs lsA cells slots w hl h1 h2
  have K := K hL hp locs lsA cells slots w hl h1 h2
  obtain ⟨hx, hb, hml, hown, hts, hK, hb0, hE⟩ := C
  exact lv_lshl hx hb hd (z_lshl h3 h4) K
theorem o_lshr {a b : Int} (ha : i64 a) (h3 : 0 ≤ b) (h4 : b ≤ 63) (C : CX p s m args c cc nL own b0 zad cs D sc) (hd : decode cc pc = .ok (.lshr, 1)) (K : GW p l e R s m args below meth c Qw b0 zad cs D nL (pc + 1) k n ls (vL (a / 2 ^ b.toNat) :: st) H) : GW p l e R s m args below meth c Qw b0 zad cs D nL pc k n ls (vI b :: vL a :: st) H := by
  intro hL hp locs lsA cells slots w hl h1 h2
  have K := K hL hp locs lsA cells slots w hl h1 h2
  obtain ⟨hx, hb, hml, hown, hts, hK, hb0, hE⟩ := C
  exact lv_lshr hx hb hd (z_lshr ha h3 h4) K
theorem o_lcmp {a b : Int} (ha : i64 a) (hb1 : i64 b) (C : CX p s m args c cc nL own b0 zad cs D sc) (hd : decode cc pc = .ok (.lcmp, 1)) (K : GW p l e R s m args below meth c Qw b0 zad cs D nL (pc + 1) k n ls (vI (lcmpv a b) :: st) H) : GW p l e R s m args below meth c Qw b0 zad cs D nL pc k n ls (vL b :: vL a :: st) H := by
  intro hL hp locs lsA cells slots w hl h1 h2
  have K := K hL hp locs lsA cells slots w hl h1 h2
  obtain ⟨hx, hb, hml, hown, hts, hK, hb0, hE⟩ := C
  exact W.lcmp hx hb hd (by rw [z_cmp ha hb1]; exact K)
theorem o_i2l {a : Int} (ha : i32 a) (C : CX p s m args c cc nL own b0 zad cs D sc) (hd : decode cc pc = .ok (.i2l, 1)) (K : GW p l e R s m args below meth c Qw b0 zad cs D nL (pc + 1) k n ls (vL a :: st) H) : GW p l e R s m args below meth c Qw b0 zad cs D nL pc k n ls (vI a :: st) H := by
  intro hL hp locs lsA cells slots w hl h1 h2
  have K := K hL hp locs lsA cells slots w hl h1 h2
  obtain ⟨hx, hb, hml, hown, hts, hK, hb0, hE⟩ := C
  exact lv_i2l hx hb hd (z_i2l ha) K
theorem o_l2i {a : Int} (C : CX p s m args c cc nL own b0 zad cs D sc) (hd : decode cc pc = .ok (.l2i, 1)) (K : GW p l e R s m args below meth c Qw b0 zad cs D nL (pc + 1) k n ls (vI a :: st) H) : GW p l e R s m args below meth c Qw b0 zad cs D nL pc k n ls (vL a :: st) H := by
  intro hL hp locs lsA cells slots w hl h1 h2
  have K := K hL hp locs lsA cells slots w hl h1 h2
  obtain ⟨hx, hb, hml, hown, hts, hK, hb0, hE⟩ := C
  exact lv_l2i hx hb hd (z_l2i a) K
theorem o_i2c {a : Int} (h3 : 0 ≤ a) (h4 : a < 65536) (C : CX p s m args c cc nL own b0 zad cs D sc) (hd : decode cc pc = .ok (.i2c, 1)) (K : GW p l e R s m args below meth c Qw b0 zad cs D nL (pc + 1) k n ls (vI a :: st) H) : GW p l e R s m args below meth c Qw b0 zad cs D nL pc k n ls (vI a :: st) H := by
  intro hL hp locs lsA cells slots w hl h1 h2
  have K := K hL hp locs lsA cells slots w hl h1 h2
  obtain ⟨hx, hb, hml, hown, hts, hK, hb0, hE⟩ := C
  exact lv_i2c hx hb hd (z_i2c h3 h4) K
theorem o_dup {v : V} (hv : sw2 v = false) (C : CX p s m args c cc nL own b0 zad cs D sc) (hd : decode cc pc = .ok (.dup, 1)) (K : GW p l e R s m args below meth c Qw b0 zad cs D nL (pc + 1) k n ls (v :: v :: st) H) : GW p l e R s m args below meth c Qw b0 zad cs D nL pc k n ls (v :: st) H := by
  intro hL hp locs lsA cells slots w hl h1 h2
  have K := K hL hp locs lsA cells slots w hl h1 h2
  obtain ⟨hx, hb, hml, hown, hts, hK, hb0, hE⟩ := C
  exact lv_dup hx hb hd (cv_cat1 hv) K
theorem o_pop {v : V} (hv : sw2 v = false) (C : CX p s m args c cc nL own b0 zad cs D sc) (hd : decode cc pc = .ok (.pop, 1)) (K : GW p l e R s m args below meth c Qw b0 zad cs D nL (pc + 1) k n ls st H) : GW p l e R s m args below meth c Qw b0 zad cs D nL pc k n ls (v :: st) H := by
  intro hL hp locs lsA cells slots w hl h1 h2
  have K := K hL hp locs lsA cells slots w hl h1 h2
  obtain ⟨hx, hb, hml, hown, hts, hK, hb0, hE⟩ := C
  exact lv_pop hx hb hd (cv_cat1 hv) K
theorem o_dup2 {a : Int} (C : CX p s m args c cc nL own b0 zad cs D sc) (hd : decode cc pc = .ok (.dup2, 1)) (K : GW p l e R s m args below meth c Qw b0 zad cs D nL (pc + 1) k n ls (vL a :: vL a :: st) H) : GW p l e R s m args below meth c Qw b0 zad cs D nL pc k n ls (vL a :: st) H := by
  intro hL hp locs lsA cells slots w hl h1 h2
  have K := K hL hp locs lsA cells slots w hl h1 h2
  obtain ⟨hx, hb, hml, hown, hts, hK, hb0, hE⟩ := C
  exact lv_dup2_2 hx hb hd rfl K
theorem o_dup2b {v u : V} (hv : sw2 v = false) (hu : sw2 u = false) (C : CX p s m args c cc nL own b0 zad cs D sc) (hd : decode cc pc = .ok (.dup2, 1)) (K : GW p l e R s m args below meth c Qw b0 zad cs D nL (pc + 1) k n ls (v :: u :: v :: u :: st) H) : GW p l e R s m args below meth c Qw b0 zad cs D nL pc k n ls (v :: u :: st) H := by
  intro hL hp locs lsA cells slots w hl h1 h2
  have K := K hL hp locs lsA cells slots w hl h1 h2
  obtain ⟨hx, hb, hml, hown, hts, hK, hb0, hE⟩ := C
  exact lv_dup2_11 hx hb hd (cv_cat1 hv) (cv_cat1 hu) K
theorem o_aload {i : Nat} {a : Nat ⊕ Nat} (C : CX p s m args c cc nL own b0 zad cs D sc) (hv : ls[i]? = some (some (.inr (.inr a)))) (hd : decode cc pc = .ok (.aload i, 2)) (K : GW p l e R s m args below meth c Qw b0 zad cs D nL (pc + 2) k n ls (.inr (.inr a) :: st) H) : GW p l e R s m args below meth c Qw b0 zad cs D nL pc k n ls st H := by
  intro hL hp locs lsA cells slots w hl h1 h2
  have K := K hL hp locs lsA cells slots w hl h1 h2
  obtain ⟨hx, hb, hml, hown, hts, hK, hb0, hE⟩ := C
  have hv := lvl_at hl hv
  rcases a with q | z
  · by_cases hq : q = 0
    · subst hq
      exact lv_aloadN hx hb hd hv K
    · rw [show (Sum.inr (Sum.inr (Sum.inl q)) : V) = vR q from rfl, cv_ref hq] at hv
      rw [List.map_cons, show (Sum.inr (Sum.inr (Sum.inl q)) : V) = vR q from rfl, cv_ref hq] at K
      exact lv_aload hx hb hd hv K
  · exact lv_aload hx hb hd hv K
theorem o_aload_n {i : Fin 4} {a : Nat ⊕ Nat} (C : CX p s m args c cc nL own b0 zad cs D sc) (hv : ls[(i : Nat)]? = some (some (.inr (.inr a)))) (hd : decode cc pc = .ok (.aload_n i, 1)) (K : GW p l e R s m args below meth c Qw b0 zad cs D nL (pc + 1) k n ls (.inr (.inr a) :: st) H) : GW p l e R s m args below meth c Qw b0 zad cs D nL pc k n ls st H := by
  intro hL hp locs lsA cells slots w hl h1 h2
  have K := K hL hp locs lsA cells slots w hl h1 h2
  obtain ⟨hx, hb, hml, hown, hts, hK, hb0, hE⟩ := C
  have hv := lvl_at hl hv
  rcases a with q | z
  · by_cases hq : q = 0
    · subst hq
      exact lv_aload_nN hx hb hd rfl hv K
    · rw [show (Sum.inr (Sum.inr (Sum.inl q)) : V) = vR q from rfl, cv_ref hq] at hv
      rw [List.map_cons, show (Sum.inr (Sum.inr (Sum.inl q)) : V) = vR q from rfl, cv_ref hq] at K
      exact lv_aload_n hx hb hd rfl hv K
  · exact lv_aload_n hx hb hd rfl hv K
theorem o_astore {i : Nat} {a : Nat ⊕ Nat} (C : CX p s m args c cc nL own b0 zad cs D sc) (hi : i < ls.length) (hd : decode cc pc = .ok (.astore i, 2)) (K : GW p l e R s m args below meth c Qw b0 zad cs D nL (pc + 2) k n (lput ls i (.inr (.inr a))) st H) : GW p l e R s m args below meth c Qw b0 zad cs D nL pc k n ls (.inr (.inr a) :: st) H := by
  intro hL hp locs lsA cells slots w hl h1 h2
  obtain ⟨hx, hb, hml, hown, hts, hK, hb0, hE⟩ := C
  have K : ∀ lsB, lv_has lsB nL ((i, cv b0 zad (.inr (.inr a))) :: (lvl b0 zad 0 ls).filter (fun q => !(q.1 == i) && !(q.1 + 1 == i && q.2.category == 2))) → _ := fun lsB hB => K (by rw [lput_len]; exact hL) hp locs lsB cells slots w (lv_mono hB lvl_put) h1 h2
  rw [List.map_cons]
  rcases a with q | z
  · by_cases hq : q = 0
    · subst hq
      exact lv_astoreN hx hb hd hl (by omega) rfl K
    · rw [show (Sum.inr (Sum.inr (Sum.inl q)) : V) = vR q from rfl, cv_ref hq] at K ⊢
      exact lv_astore hx hb hd hl (by omega) rfl K
  · exact lv_astore hx hb hd hl (by omega) rfl K
theorem o_astore_n {i : Fin 4} {a : Nat ⊕ Nat} (C : CX p s m args c cc nL own b0 zad cs D sc) (hi : (i : Nat) < ls.length) (hd : decode cc pc = .ok (.astore_n i, 1)) (K : GW p l e R s m args below meth c Qw b0 zad cs D nL (pc + 1) k n (lput ls (i : Nat) (.inr (.inr a))) st H) : GW p l e R s m args below meth c Qw b0 zad cs D nL pc k n ls (.inr (.inr a) :: st) H := by
  intro hL hp locs lsA cells slots w hl h1 h2
  obtain ⟨hx, hb, hml, hown, hts, hK, hb0, hE⟩ := C
  have K : ∀ lsB, lv_has lsB nL (((i : Nat), cv b0 zad (.inr (.inr a))) :: (lvl b0 zad 0 ls).filter (fun q => !(q.1 == (i : Nat)) && !(q.1 + 1 == (i : Nat) && q.2.category == 2))) → _ := fun lsB hB => K (by rw [lput_len]; exact hL) hp locs lsB cells slots w (lv_mono hB lvl_put) h1 h2
  rw [List.map_cons]
  rcases a with q | z
  · by_cases hq : q = 0
    · subst hq
      exact lv_astore_nN hx hb hd rfl hl (by omega) rfl K
    · rw [show (Sum.inr (Sum.inr (Sum.inl q)) : V) = vR q from rfl, cv_ref hq] at K ⊢
      exact lv_astore_n hx hb hd rfl hl (by omega) rfl K
  · exact lv_astore_n hx hb hd rfl hl (by omega) rfl K
theorem o_goto {off : Int} (C : CX p s m args c cc nL own b0 zad cs D sc) (ho : 0 ≤ (pc : Int) + off) (hd : decode cc pc = .ok (.goto off, 3)) (K : GW p l e R s m args below meth c Qw b0 zad cs D nL (jmp pc off) k n ls st H) : GW p l e R s m args below meth c Qw b0 zad cs D nL pc k n ls st H := by
  intro hL hp locs lsA cells slots w hl h1 h2
  have K := K hL hp locs lsA cells slots w hl h1 h2
  obtain ⟨hx, hb, hml, hown, hts, hK, hb0, hE⟩ := C
  exact lv_goto hx hb hd (Int.toNat_of_nonneg ho).symm K
theorem o_icmp_eq {a b off : Int} (C : CX p s m args c cc nL own b0 zad cs D sc) (ho : 0 ≤ (pc : Int) + off) (ha : i32 a) (hb1 : i32 b) (hd : decode cc pc = .ok (.if_icmp .eq off, 3)) (Kt : cnd .eq a b → GW p l e R s m args below meth c Qw b0 zad cs D nL (jmp pc off) k n ls st H) (Kf : ¬ cnd .eq a b → GW p l e R s m args below meth c Qw b0 zad cs D nL (pc + 3) k n ls st H) : GW p l e R s m args below meth c Qw b0 zad cs D nL pc k n ls (vI b :: vI a :: st) H := by
  intro hL hp locs lsA cells slots w hl h1 h2
  obtain ⟨hx, hb, hml, hown, hts, hK, hb0, hE⟩ := C
  exact lv_icmp_eq hx hb hd (Int.toNat_of_nonneg ho).symm (fun q => Kt ((z_eq ha hb1).mp q) hL hp locs lsA cells slots w hl h1 h2) (fun q => Kf (fun z => q ((z_eq ha hb1).mpr z)) hL hp locs lsA cells slots w hl h1 h2)
theorem o_if_eq {a off : Int} (C : CX p s m args c cc nL own b0 zad cs D sc) (ho : 0 ≤ (pc : Int) + off) (ha : i32 a) (hd : decode cc pc = .ok (.ifCond .eq off, 3)) (Kt : cnd .eq a 0 → GW p l e R s m args below meth c Qw b0 zad cs D nL (jmp pc off) k n ls st H) (Kf : ¬ cnd .eq a 0 → GW p l e R s m args below meth c Qw b0 zad cs D nL (pc + 3) k n ls st H) : GW p l e R s m args below meth c Qw b0 zad cs D nL pc k n ls (vI a :: st) H := by
  intro hL hp locs lsA cells slots w hl h1 h2
  obtain ⟨hx, hb, hml, hown, hts, hK, hb0, hE⟩ := C
  have hb1 : i32 0 := by decide
  exact lv_if_eq hx hb hd (Int.toNat_of_nonneg ho).symm (fun q => Kt ((z_eq ha hb1).mp q) hL hp locs lsA cells slots w hl h1 h2) (fun q => Kf (fun z => q ((z_eq ha hb1).mpr z)) hL hp locs lsA cells slots w hl h1 h2)
theorem o_icmp_ne {a b off : Int} (C : CX p s m args c cc nL own b0 zad cs D sc) (ho : 0 ≤ (pc : Int) + off) (ha : i32 a) (hb1 : i32 b) (hd : decode cc pc = .ok (.if_icmp .ne off, 3)) (Kt : cnd .ne a b → GW p l e R s m args below meth c Qw b0 zad cs D nL (jmp pc off) k n ls st H) (Kf : ¬ cnd .ne a b → GW p l e R s m args below meth c Qw b0 zad cs D nL (pc + 3) k n ls st H) : GW p l e R s m args below meth c Qw b0 zad cs D nL pc k n ls (vI b :: vI a :: st) H := by
  intro hL hp locs lsA cells slots w hl h1 h2
  obtain ⟨hx, hb, hml, hown, hts, hK, hb0, hE⟩ := C
  exact lv_icmp_ne hx hb hd (Int.toNat_of_nonneg ho).symm (fun q => Kt (fun z => q ((z_eq ha hb1).mpr z)) hL hp locs lsA cells slots w hl h1 h2) (fun q => Kf (fun z => z ((z_eq ha hb1).mp q)) hL hp locs lsA cells slots w hl h1 h2)
theorem o_if_ne {a off : Int} (C : CX p s m args c cc nL own b0 zad cs D sc) (ho : 0 ≤ (pc : Int) + off) (ha : i32 a) (hd : decode cc pc = .ok (.ifCond .ne off, 3)) (Kt : cnd .ne a 0 → GW p l e R s m args below meth c Qw b0 zad cs D nL (jmp pc off) k n ls st H) (Kf : ¬ cnd .ne a 0 → GW p l e R s m args below meth c Qw b0 zad cs D nL (pc + 3) k n ls st H) : GW p l e R s m args below meth c Qw b0 zad cs D nL pc k n ls (vI a :: st) H := by
  intro hL hp locs lsA cells slots w hl h1 h2
  obtain ⟨hx, hb, hml, hown, hts, hK, hb0, hE⟩ := C
  have hb1 : i32 0 := by decide
  exact lv_if_ne hx hb hd (Int.toNat_of_nonneg ho).symm (fun q => Kt (fun z => q ((z_eq ha hb1).mpr z)) hL hp locs lsA cells slots w hl h1 h2) (fun q => Kf (fun z => z ((z_eq ha hb1).mp q)) hL hp locs lsA cells slots w hl h1 h2)
theorem o_icmp_lt {a b off : Int} (C : CX p s m args c cc nL own b0 zad cs D sc) (ho : 0 ≤ (pc : Int) + off) (ha : i32 a) (hb1 : i32 b) (hd : decode cc pc = .ok (.if_icmp .lt off, 3)) (Kt : cnd .lt a b → GW p l e R s m args below meth c Qw b0 zad cs D nL (jmp pc off) k n ls st H) (Kf : ¬ cnd .lt a b → GW p l e R s m args below meth c Qw b0 zad cs D nL (pc + 3) k n ls st H) : GW p l e R s m args below meth c Qw b0 zad cs D nL pc k n ls (vI b :: vI a :: st) H := by
  intro hL hp locs lsA cells slots w hl h1 h2
  obtain ⟨hx, hb, hml, hown, hts, hK, hb0, hE⟩ := C
  exact lv_icmp_lt hx hb hd (Int.toNat_of_nonneg ho).symm (fun q => Kt ((z_lt ha hb1).mp q) hL hp locs lsA cells slots w hl h1 h2) (fun q => Kf (fun z => q ((z_lt ha hb1).mpr z)) hL hp locs lsA cells slots w hl h1 h2)
theorem o_if_lt {a off : Int} (C : CX p s m args c cc nL own b0 zad cs D sc) (ho : 0 ≤ (pc : Int) + off) (ha : i32 a) (hd : decode cc pc = .ok (.ifCond .lt off, 3)) (Kt : cnd .lt a 0 → GW p l e R s m args below meth c Qw b0 zad cs D nL (jmp pc off) k n ls st H) (Kf : ¬ cnd .lt a 0 → GW p l e R s m args below meth c Qw b0 zad cs D nL (pc + 3) k n ls st H) : GW p l e R s m args below meth c Qw b0 zad cs D nL pc k n ls (vI a :: st) H := by
  intro hL hp locs lsA cells slots w hl h1 h2
  obtain ⟨hx, hb, hml, hown, hts, hK, hb0, hE⟩ := C
  have hb1 : i32 0 := by decide
  exact lv_if_lt hx hb hd (Int.toNat_of_nonneg ho).symm (fun q => Kt ((z_lt ha hb1).mp q) hL hp locs lsA cells slots w hl h1 h2) (fun q => Kf (fun z => q ((z_lt ha hb1).mpr z)) hL hp locs lsA cells slots w hl h1 h2)
theorem o_icmp_ge {a b off : Int} (C : CX p s m args c cc nL own b0 zad cs D sc) (ho : 0 ≤ (pc : Int) + off) (ha : i32 a) (hb1 : i32 b) (hd : decode cc pc = .ok (.if_icmp .ge off, 3)) (Kt : cnd .ge a b → GW p l e R s m args below meth c Qw b0 zad cs D nL (jmp pc off) k n ls st H) (Kf : ¬ cnd .ge a b → GW p l e R s m args below meth c Qw b0 zad cs D nL (pc + 3) k n ls st H) : GW p l e R s m args below meth c Qw b0 zad cs D nL pc k n ls (vI b :: vI a :: st) H := by
  intro hL hp locs lsA cells slots w hl h1 h2
  obtain ⟨hx, hb, hml, hown, hts, hK, hb0, hE⟩ := C
  exact lv_icmp_ge hx hb hd (Int.toNat_of_nonneg ho).symm (fun q => Kt ((z_le hb1 ha).mp q) hL hp locs lsA cells slots w hl h1 h2) (fun q => Kf (fun z => q ((z_le hb1 ha).mpr z)) hL hp locs lsA cells slots w hl h1 h2)
theorem o_if_ge {a off : Int} (C : CX p s m args c cc nL own b0 zad cs D sc) (ho : 0 ≤ (pc : Int) + off) (ha : i32 a) (hd : decode cc pc = .ok (.ifCond .ge off, 3)) (Kt : cnd .ge a 0 → GW p l e R s m args below meth c Qw b0 zad cs D nL (jmp pc off) k n ls st H) (Kf : ¬ cnd .ge a 0 → GW p l e R s m args below meth c Qw b0 zad cs D nL (pc + 3) k n ls st H) : GW p l e R s m args below meth c Qw b0 zad cs D nL pc k n ls (vI a :: st) H := by
  intro hL hp locs lsA cells slots w hl h1 h2
  obtain ⟨hx, hb, hml, hown, hts, hK, hb0, hE⟩ := C
  have hb1 : i32 0 := by decide
  exact lv_if_ge hx hb hd (Int.toNat_of_nonneg ho).symm (fun q => Kt ((z_le hb1 ha).mp q) hL hp locs lsA cells slots w hl h1 h2) (fun q => Kf (fun z => q ((z_le hb1 ha).mpr z)) hL hp locs lsA cells slots w hl h1 h2)
theorem o_icmp_gt {a b off : Int} (C : CX p s m args c cc nL own b0 zad cs D sc) (ho : 0 ≤ (pc : Int) + off) (ha : i32 a) (hb1 : i32 b) (hd : decode cc pc = .ok (.if_icmp .gt off, 3)) (Kt : cnd .gt a b → GW p l e R s m args below meth c Qw b0 zad cs D nL (jmp pc off) k n ls st H) (Kf : ¬ cnd .gt a b → GW p l e R s m args below meth c Qw b0 zad cs D nL (pc + 3) k n ls st H) : GW p l e R s m args below meth c Qw b0 zad cs D nL pc k n ls (vI b :: vI a :: st) H := by
  intro hL hp locs lsA cells slots w hl h1 h2
  obtain ⟨hx, hb, hml, hown, hts, hK, hb0, hE⟩ := C
  exact lv_icmp_gt hx hb hd (Int.toNat_of_nonneg ho).symm (fun q => Kt ((z_lt hb1 ha).mp q) hL hp locs lsA cells slots w hl h1 h2) (fun q => Kf (fun z => q ((z_lt hb1 ha).mpr z)) hL hp locs lsA cells slots w hl h1 h2)
theorem o_if_gt {a off : Int} (C : CX p s m args c cc nL own b0 zad cs D sc) (ho : 0 ≤ (pc : Int) + off) (ha : i32 a) (hd : decode cc pc = .ok (.ifCond .gt off, 3)) (Kt : cnd .gt a 0 → GW p l e R s m args below meth c Qw b0 zad cs D nL (jmp pc off) k n ls st H) (Kf : ¬ cnd .gt a 0 → GW p l e R s m args below meth c Qw b0 zad cs D nL (pc + 3) k n ls st H) : GW p l e R s m args below meth c Qw b0 zad cs D nL pc k n ls (vI a :: st) H := by
  intro hL hp locs lsA cells slots w hl h1 h2
  obtain ⟨hx, hb, hml, hown, hts, hK, hb0, hE⟩ := C
  have hb1 : i32 0 := by decide
  exact lv_if_gt hx hb hd (Int.toNat_of_nonneg ho).symm (fun q => Kt ((z_lt hb1 ha).mp q) hL hp locs lsA cells slots w hl h1 h2) (fun q => Kf (fun z => q ((z_lt hb1 ha).mpr z)) hL hp locs lsA cells slots w hl h1 h2)
theorem o_icmp_le {a b off : Int} (C : CX p s m args c cc nL own b0 zad cs D sc) (ho : 0 ≤ (pc : Int) + off) (ha : i32 a) (hb1 : i32 b) (hd : decode cc pc = .ok (.if_icmp .le off, 3)) (Kt : cnd .le a b → GW p l e R s m args below meth c Qw b0 zad cs D nL (jmp pc off) k n ls st H) (Kf : ¬ cnd .le a b → GW p l e R s m args below meth c Qw b0 zad cs D nL (pc + 3) k n ls st H) : GW p l e R s m args below meth c Qw b0 zad cs D nL pc k n ls (vI b :: vI a :: st) H := by
  intro hL hp locs lsA cells slots w hl h1 h2
  obtain ⟨hx, hb, hml, hown, hts, hK, hb0, hE⟩ := C
  exact lv_icmp_le hx hb hd (Int.toNat_of_nonneg ho).symm (fun q => Kt ((z_le ha hb1).mp q) hL hp locs lsA cells slots w hl h1 h2) (fun q => Kf (fun z => q ((z_le ha hb1).mpr z)) hL hp locs lsA cells slots w hl h1 h2)
theorem o_if_le {a off : Int} (C : CX p s m args c cc nL own b0 zad cs D sc) (ho : 0 ≤ (pc : Int) + off) (ha : i32 a) (hd : decode cc pc = .ok (.ifCond .le off, 3)) (Kt : cnd .le a 0 → GW p l e R s m args below meth c Qw b0 zad cs D nL (jmp pc off) k n ls st H) (Kf : ¬ cnd .le a 0 → GW p l e R s m args below meth c Qw b0 zad cs D nL (pc + 3) k n ls st H) : GW p l e R s m args below meth c Qw b0 zad cs D nL pc k n ls (vI a :: st) H := by
  intro hL hp locs lsA cells slots w hl h1 h2
  obtain ⟨hx, hb, hml, hown, hts, hK, hb0, hE⟩ := C
  have hb1 : i32 0 := by decide
  exact lv_if_le hx hb hd (Int.toNat_of_nonneg ho).symm (fun q => Kt ((z_le ha hb1).mp q) hL hp locs lsA cells slots w hl h1 h2) (fun q => Kf (fun z => q ((z_le ha hb1).mpr z)) hL hp locs lsA cells slots w hl h1 h2)
theorem o_ifnull {q : Nat} {off : Int} (C : CX p s m args c cc nL own b0 zad cs D sc) (ho : 0 ≤ (pc : Int) + off) (hd : decode cc pc = .ok (.ifnull off, 3)) (Kt : q = 0 → GW p l e R s m args below meth c Qw b0 zad cs D nL (jmp pc off) k n ls st H) (Kf : ¬ q = 0 → GW p l e R s m args below meth c Qw b0 zad cs D nL (pc + 3) k n ls st H) : GW p l e R s m args below meth c Qw b0 zad cs D nL pc k n ls (vR q :: st) H := by
  intro hL hp locs lsA cells slots w hl h1 h2
  obtain ⟨hx, hb, hml, hown, hts, hK, hb0, hE⟩ := C
  by_cases hq : q = 0
  · subst hq
    exact lv_ifnullN hx hb hd (Int.toNat_of_nonneg ho).symm (Kt rfl hL hp locs lsA cells slots w hl h1 h2)
  · rw [List.map_cons, cv_ref hq]
    exact lv_ifnull hx hb hd (Kf hq hL hp locs lsA cells slots w hl h1 h2)
theorem o_ifnonnull {q : Nat} {off : Int} (C : CX p s m args c cc nL own b0 zad cs D sc) (ho : 0 ≤ (pc : Int) + off) (hd : decode cc pc = .ok (.ifnonnull off, 3)) (Kt : ¬ q = 0 → GW p l e R s m args below meth c Qw b0 zad cs D nL (jmp pc off) k n ls st H) (Kf : q = 0 → GW p l e R s m args below meth c Qw b0 zad cs D nL (pc + 3) k n ls st H) : GW p l e R s m args below meth c Qw b0 zad cs D nL pc k n ls (vR q :: st) H := by
  intro hL hp locs lsA cells slots w hl h1 h2
  obtain ⟨hx, hb, hml, hown, hts, hK, hb0, hE⟩ := C
  by_cases hq : q = 0
  · subst hq
    exact lv_ifnonnullN hx hb hd (Kf rfl hL hp locs lsA cells slots w hl h1 h2)
  · rw [List.map_cons, cv_ref hq]
    exact lv_ifnonnull hx hb hd (Int.toNat_of_nonneg ho).symm (Kt hq hL hp locs lsA cells slots w hl h1 h2)
end OPS
