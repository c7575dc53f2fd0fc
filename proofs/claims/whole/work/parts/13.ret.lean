theorem js_cs : Cond.fieldLink (cnm 14) 38 "java/lang/String" "COMPACT_STRINGS" "Z" ∈ ztbl := zin (List.mem_of_getElem? (i := 667) (by decide +kernel)) rfl
theorem js_fm : Cond.fieldLink (cnm 14) 1053 "jdk/internal/util/Preconditions" "SIOOBE_FORMATTER" "Ljava/util/function/BiFunction;" ∈ ztbl := zin (List.mem_of_getElem? (i := 683) (by decide +kernel)) rfl
theorem js_val : Cond.fieldLink (cnm 14) 9 "java/lang/String" "value" "[B" ∈ ztbl := zin (List.mem_of_getElem? (i := 2172) (by decide +kernel)) rfl
theorem js_cod : Cond.fieldLink (cnm 14) 15 "java/lang/String" "coder" "B" ∈ ztbl := zin (List.mem_of_getElem? (i := 2173) (by decide +kernel)) rfl
theorem slens_at : ∀ k, k < 24 → slens.getD k 0 = (sbytes k).length := by decide +kernel
theorem sbyts_at : ∀ k, k < 24 → sbyts.getD k [] = (sbytes k).map Int32.ofInt := by decide +kernel
theorem slens_le : ∀ k, k < 24 → (sbytes k).length ≤ 100 := by decide +kernel
theorem getD_ofInt (l : List Int) (j : Nat) : (l.map Int32.ofInt).getD j 0 = Int32.ofInt (l.getD j 0) := by
  rw [List.getD_eq_getElem?_getD, List.getD_eq_getElem?_getD, List.getElem?_map]
  cases l[j]? <;> rfl
/-- the locals at a method's start -/
def argL : List V → LV
  | [] => []
  | v :: r => match sw2 v with
    | true => some v :: none :: argL r
    | false => some v :: argL r
def padL (n : Nat) (ls : LV) : LV := ls ++ List.replicate (n - ls.length) none
theorem argL_len (b0 : Nat) (zad : Nat → Nat) : ∀ vs : List V, (lg_sl (vs.map (cv b0 zad))).length = (argL vs).length
  | [] => rfl
  | v :: r => by
    have ih := argL_len b0 zad r
    have hc := cv_cat (b0 := b0) (zad := zad) v
    unfold argL
    simp only [lg_sl, List.map_cons, List.flatMap_cons, List.length_append] at ih ⊢
    cases h : sw2 v
    · rw [h] at hc
      rw [if_neg (by simpa using hc)]
      simp only [List.length_cons, List.length_nil]
      omega
    · rw [h] at hc
      rw [if_pos (by simpa using hc)]
      simp only [List.length_cons, List.length_nil]
      omega
theorem argL_in (b0 : Nat) (zad : Nat → Nat) : ∀ (vs : List V) (i : Nat) (w : Nat × Value), w ∈ lvl b0 zad i (argL vs) → w ∈ lv_args i (vs.map (cv b0 zad))
  | [], i, w, h => by simp [argL, lvl] at h
  | v :: r, i, w, h => by
    have hc := cv_cat (b0 := b0) (zad := zad) v
    unfold argL at h
    simp only [List.map_cons, lv_args]
    cases h2 : sw2 v
    · rw [h2] at hc h
      rw [if_neg (by simpa using hc)]
      simp only [lvl, List.mem_cons] at h
      rcases h with h | h
      · exact List.mem_cons.mpr (Or.inl h)
      · exact List.mem_cons.mpr (Or.inr (argL_in b0 zad r (i + 1) w h))
    · rw [h2] at hc h
      rw [if_pos (by simpa using hc)]
      simp only [lvl, List.mem_cons] at h
      rcases h with h | h
      · exact List.mem_cons.mpr (Or.inl h)
      · exact List.mem_cons.mpr (Or.inr (argL_in b0 zad r (i + 2) w h))
theorem padL_in {b0 : Nat} {zad : Nat → Nat} {n : Nat} {ls : LV} {w : Nat × Value} (h : w ∈ lvl b0 zad 0 (padL n ls)) : w ∈ lvl b0 zad 0 ls := by
  obtain ⟨q, v, h1, h2⟩ := (mem_lvl _ _ _).mp h
  refine (mem_lvl _ _ _).mpr ⟨q, v, ?_, h2⟩
  unfold padL at h1
  by_cases hq : q < ls.length
  · rwa [List.getElem?_append_left hq] at h1
  · rw [List.getElem?_append_right (by omega), List.getElem?_replicate] at h1
    split at h1 <;> simp at h1
/-- how a number must be to be answered as it stands -/
def rok (x a : Int) : Prop := match x with
  | 0 => True
  | 3 => 0 ≤ a ∧ a < 65536
  | _ => a = 0 ∨ a = 1
def retx (r : Option FieldType) : Int := match r with
  | some .int => 0
  | some .boolean => 1
  | some .byte => 2
  | some .char => 3
  | _ => 9
theorem nar_ok {ty : FieldType} {a : Int} (h : retx (some ty) ≠ 9) (hr : rok (retx (some ty)) a) : narrow ty (.int (Int32.ofInt a)) = .int (Int32.ofInt a) := by
  cases ty <;> first | (exact absurd rfl h) | skip
  · -- boolean or the like
    all_goals first
      | rfl
      | (rcases (hr : a = 0 ∨ a = 1) with rfl | rfl <;> decide)
      | (obtain ⟨h1, h2⟩ := (hr : 0 ≤ a ∧ a < 65536)
         have := pk_charN (q := a.toNat) (by omega)
         rw [show nI a.toNat = Int32.ofInt a by rw [show nI a.toNat = Int32.ofNat a.toNat from rfl, ← Int32.ofInt_eq_ofNat]; congr 1; omega] at this
         exact this.1)
  all_goals first
    | rfl
    | (rcases (hr : a = 0 ∨ a = 1) with rfl | rfl <;> decide)
    | (obtain ⟨h1, h2⟩ := (hr : 0 ≤ a ∧ a < 65536)
       have := pk_charN (q := a.toNat) (by omega)
       rw [show nI a.toNat = Int32.ofInt a by rw [show nI a.toNat = Int32.ofNat a.toNat from rfl, ← Int32.ofInt_eq_ofNat]; congr 1; omega] at this
       exact this.1)
section RET
variable {p : Program} {l : Launch} {e : Env} {R : Room} {s : State} {m : MethodId} {args : Array Value} {below : List Frame} {meth : Method} {c : Code} {cc : ByteArray} {nL own b0 : Nat} {zad : Nat → Nat} {cs : Nat → ClassId} {D : va_G} {sc : List Int} {pc k n : Nat} {ls : LV} {st : List V} {H : HS} {Q : V → HS → Prop} {ret : Option FieldType} {mc ms : Nat}
theorem WD_L {H0 hp : Heap} {locs : List Loc} (w : WD b0 zad cs D H0 H hp locs) : WL b0 zad cs D H hp := ⟨w.1, w.2.1, w.2.2.1, w.2.2.2.1⟩
theorem o_iret {a : Int} (C : CX p s m args c cc nL own b0 zad cs D sc) (hr : meth.sig.returnType = ret) (hlk : meth.locks = false) (hRc : R.cells = mc) (hRs : R.slots = ms) (h9 : retx ret ≠ 9) (hro : rok (retx ret) a) (hQ : Q (vI a) H) (hd : decode cc pc = .ok (.ireturn, 1)) : GW p l e R s m args below meth c (MQ below (QcM b0 zad cs D ret Q) args s mc ms (fA b0)) b0 zad cs D nL pc k n ls [vI a] H := by
  intro hL hp locs lsA cells slots w hl h1 h2
  obtain ⟨hx, hb, hml, hown, hts, hK, hb0, hE⟩ := C
  refine W.widen (k := mc) (n := ms) (by omega) (by omega) ?_
  cases ret with
  | none => exact absurd rfl h9
  | some ty => exact W.zret hx hb hr (nar_ok h9 hro) (fun t ht hW => ⟨⟨vI a, H, hQ, rfl, by rw [ht]; exact WD_L w⟩, w.2.2.2.2.F ht⟩) w.2.2.2.2.2.2 hd hlk
theorem o_lret {a : Int} (C : CX p s m args c cc nL own b0 zad cs D sc) (hr : meth.sig.returnType = ret) (hlk : meth.locks = false) (hRc : R.cells = mc) (hRs : R.slots = ms) (h9 : ret = some .long) (hQ : Q (vL a) H) (hd : decode cc pc = .ok (.lreturn, 1)) : GW p l e R s m args below meth c (MQ below (QcM b0 zad cs D ret Q) args s mc ms (fA b0)) b0 zad cs D nL pc k n ls [vL a] H := by
  intro hL hp locs lsA cells slots w hl h1 h2
  obtain ⟨hx, hb, hml, hown, hts, hK, hb0, hE⟩ := C
  refine W.widen (k := mc) (n := ms) (by omega) (by omega) ?_
  subst h9
  exact W.lret hx hb hr (fun t ht hW => ⟨⟨vL a, H, hQ, rfl, by rw [ht]; exact WD_L w⟩, w.2.2.2.2.F ht⟩) w.2.2.2.2.2.2 hd hlk
theorem o_vret (C : CX p s m args c cc nL own b0 zad cs D sc) (hr : meth.sig.returnType = ret) (hlk : meth.locks = false) (hRc : R.cells = mc) (hRs : R.slots = ms) (h9 : ret = none) (hQ : Q (vI 0) H) (hd : decode cc pc = .ok (.return_, 1)) : GW p l e R s m args below meth c (MQ below (QcM b0 zad cs D ret Q) args s mc ms (fA b0)) b0 zad cs D nL pc k n ls [] H := by
  intro hL hp locs lsA cells slots w hl h1 h2
  obtain ⟨hx, hb, hml, hown, hts, hK, hb0, hE⟩ := C
  refine W.widen (k := mc) (n := ms) (by omega) (by omega) ?_
  subst h9
  exact W.vret hx hb hr (fun t ht hW => ⟨⟨vI 0, H, hQ, rfl, by rw [ht]; exact WD_L w⟩, w.2.2.2.2.F ht⟩) w.2.2.2.2.2.2 hd hlk
theorem o_aret {a : Nat ⊕ Nat} {rt : FieldType} (C : CX p s m args c cc nL own b0 zad cs D sc) (hr : meth.sig.returnType = ret) (hlk : meth.locks = false) (hRc : R.cells = mc) (hRs : R.slots = ms) (h9 : ret = some rt) (hrt : isRefT rt = true) (hQ : Q (.inr (.inr a)) H) (hd : decode cc pc = .ok (.areturn, 1)) : GW p l e R s m args below meth c (MQ below (QcM b0 zad cs D ret Q) args s mc ms (fA b0)) b0 zad cs D nL pc k n ls [.inr (.inr a)] H := by
  intro hL hp locs lsA cells slots w hl h1 h2
  obtain ⟨hx, hb, hml, hown, hts, hK, hb0, hE⟩ := C
  refine W.widen (k := mc) (n := ms) (by omega) (by omega) ?_
  subst h9
  have hrt2 : (∃ n, rt = .object n) ∨ ∃ t, rt = .array t := by
    cases rt <;> first | exact Or.inl ⟨_, rfl⟩ | exact Or.inr ⟨_, rfl⟩ | cases hrt
  have hv : cv b0 zad (.inr (.inr a)) = .null ∨ ∃ q, cv b0 zad (.inr (.inr a)) = .ref q := by
    rcases a with q | z
    · by_cases hq : q = 0
      · subst hq
        exact Or.inl rfl
      · exact Or.inr ⟨b0 + q, cv_ref hq⟩
    · exact Or.inr ⟨_, rfl⟩
  exact W.aret (v := cv b0 zad (.inr (.inr a))) hx hb hr hrt2 hv (fun t ht hW => ⟨⟨.inr (.inr a), H, hQ, rfl, by rw [ht]; exact WD_L w⟩, w.2.2.2.2.F ht⟩) w.2.2.2.2.2.2 hd hlk
end RET
section STR
variable {p : Program} {l : Launch} {e : Env} {R : Room} {s : State} {m : MethodId} {args : Array Value} {below : List Frame} {meth : Method} {c : Code} {Qw : State → Prop} {cc : ByteArray} {nL own b0 : Nat} {zad : Nat → Nat} {cs : Nat → ClassId} {D : va_G} {sc : List Int} {pc k n : Nat} {ls : LV} {st : List V} {H : HS}
theorem o_gets0 (C : CX p s m args c cc nL own b0 zad cs D sc) (ho : own = 14) (hd : decode cc pc = .ok (.getstatic 38, 3)) (K : GW p l e R s m args below meth c Qw b0 zad cs D nL (pc + 3) k n ls (vI 1 :: st) H) : GW p l e R s m args below meth c Qw b0 zad cs D nL pc k n ls st H := by
  intro hL hp locs lsA cells slots w hl h1 h2
  have K := K hL hp locs lsA cells slots w hl h1 h2
  obtain ⟨hx, hb, hml, hown, hts, hK, hb0, hE⟩ := C
  subst ho
  exact va_gets hx hb hE.2.2.1 w.2.2.2.2 hown (hts _ js_cs) (fun x h => h) hd K
theorem o_gets1 (C : CX p s m args c cc nL own b0 zad cs D sc) (ho : own = 14) (hd : decode cc pc = .ok (.getstatic 1053, 3)) (K : GW p l e R s m args below meth c Qw b0 zad cs D nL (pc + 3) k n ls (vZ 100 :: st) H) (K2 : GW p l e R s m args below meth c Qw b0 zad cs D nL (pc + 3) k n ls (vR 0 :: st) H) : GW p l e R s m args below meth c Qw b0 zad cs D nL pc k n ls st H := by
  intro hL hp locs lsA cells slots w hl h1 h2
  have K := K hL hp locs lsA cells slots w hl h1 h2
  have K2 := K2 hL hp locs lsA cells slots w hl h1 h2
  obtain ⟨hx, hb, hml, hown, hts, hK, hb0, hE⟩ := C
  subst ho
  obtain ⟨fv, hfv, hZ⟩ := hE.2.2.2.1
  rcases hfv with rfl | rfl
  · exact va_gets hx hb hZ w.2.2.2.2 hown (hts _ js_fm) (fun x h => h) hd K
  · exact va_gets hx hb hZ w.2.2.2.2 hown (hts _ js_fm) (fun x h => h) hd K2
theorem o_sval {z : Nat} (C : CX p s m args c cc nL own b0 zad cs D sc) (ho : own = 14) (hz : z % 2 = 1) (hz2 : z < 48) (hd : decode cc pc = .ok (.getfield 9, 3)) (K : GW p l e R s m args below meth c Qw b0 zad cs D nL (pc + 3) k n ls (vZ (z + 1) :: st) H) : GW p l e R s m args below meth c Qw b0 zad cs D nL pc k n ls (vZ z :: st) H := by
  intro hL hp locs lsA cells slots w hl h1 h2
  have K := K hL hp locs lsA cells slots w hl h1 h2
  obtain ⟨hx, hb, hml, hown, hts, hK, hb0, hE⟩ := C
  subst ho
  have hv := (hE.1.1 (z / 2) (by omega)).2.2.1
  dsimp only at hv
  rw [show 2 * (z / 2) + 1 = z by omega, show 2 * (z / 2) + 2 = z + 1 by omega] at hv
  exact vk_getf hx hb hv w.2.2.2.2 hown (hts _ js_val) (fun x h => h) hd K
theorem o_scod {z : Nat} (C : CX p s m args c cc nL own b0 zad cs D sc) (ho : own = 14) (hz : z % 2 = 1) (hz2 : z < 48) (hd : decode cc pc = .ok (.getfield 15, 3)) (K : GW p l e R s m args below meth c Qw b0 zad cs D nL (pc + 3) k n ls (vI 0 :: st) H) : GW p l e R s m args below meth c Qw b0 zad cs D nL pc k n ls (vZ z :: st) H := by
  intro hL hp locs lsA cells slots w hl h1 h2
  have K := K hL hp locs lsA cells slots w hl h1 h2
  obtain ⟨hx, hb, hml, hown, hts, hK, hb0, hE⟩ := C
  subst ho
  have hv := (hE.1.1 (z / 2) (by omega)).2.1
  dsimp only at hv
  rw [show 2 * (z / 2) + 1 = z by omega] at hv
  exact vk_getf hx hb hv w.2.2.2.2 hown (hts _ js_cod) (fun x h => h) hd K
theorem s_T {q : Nat} (hE : EX b0 zad sc s s.heap) (hq : q < 24) : va_T .byte (zad (2 * q + 2)) (sbytes q).length (fun j => .int (Int32.ofInt ((sbytes q).getD j 0))) (fA b0) s s.heap := by
  have h := (hE.1.1 q hq).2.2.2
  dsimp only at h
  rw [slens_at q hq, sbyts_at q hq] at h
  simp only [getD_ofInt] at h
  exact h
theorem o_baload {z : Nat} {i : Int} (C : CX p s m args c cc nL own b0 zad cs D sc) (hz : z % 2 = 0) (hz0 : 0 < z) (hz2 : z < 50) (hi0 : 0 ≤ i) (hi1 : i < ((sbytes (z / 2 - 1)).length : Int)) (hd : decode cc pc = .ok (.baload, 1)) (K : GW p l e R s m args below meth c Qw b0 zad cs D nL (pc + 1) k n ls (vI ((sbytes (z / 2 - 1)).getD i.toNat 0) :: st) H) : GW p l e R s m args below meth c Qw b0 zad cs D nL pc k n ls (vI i :: vZ z :: st) H := by
  intro hL hp locs lsA cells slots w hl h1 h2
  have K := K hL hp locs lsA cells slots w hl h1 h2
  obtain ⟨hx, hb, hml, hown, hts, hK, hb0, hE⟩ := C
  have hT := s_T (q := z / 2 - 1) hE (by omega)
  rw [show 2 * (z / 2 - 1) + 2 = z by omega] at hT
  have hle := slens_le (z / 2 - 1) (by omega)
  exact va_tb hx hb hT w.2.2.2.2 (z_in hi0 hi1 (by omega)) (by rw [z_clamp hi0 hi1 (by omega)]; rfl) hd K
theorem o_blen {z : Nat} (C : CX p s m args c cc nL own b0 zad cs D sc) (hz : z % 2 = 1) (hz2 : z < 48) (hd : decode cc pc = .ok (.arraylength, 1)) (K : GW p l e R s m args below meth c Qw b0 zad cs D nL (pc + 1) k n ls (vI ((sbytes (z / 2)).length : Int) :: st) H) : GW p l e R s m args below meth c Qw b0 zad cs D nL pc k n ls (vZ (z + 1) :: st) H := by
  intro hL hp locs lsA cells slots w hl h1 h2
  have K := K hL hp locs lsA cells slots w hl h1 h2
  obtain ⟨hx, hb, hml, hown, hts, hK, hb0, hE⟩ := C
  have hT := s_T (q := z / 2) hE (by omega)
  rw [show 2 * (z / 2) + 2 = z + 1 by omega] at hT
  exact va_tlen hx hb hT w.2.2.2.2 Int32.ofInt_eq_ofNat.symm hd K
theorem o_tsw {dflt lo hi : Int} {offs : Array Int} {len : Nat} {x : Int} (C : CX p s m args c cc nL own b0 zad cs D sc) (hx32 : i32 x) (hd : decode cc pc = .ok (.tableswitch dflt lo hi offs, len)) (hlo : hi - lo + 1 = (offs.toList.length : Int)) (hoffs : ∀ o ∈ dflt :: offs.toList, 0 ≤ (pc : Int) + o)
    (Kd : x < lo ∨ hi < x → GW p l e R s m args below meth c Qw b0 zad cs D nL (jmp pc dflt) k n ls st H) (Kt : swT pc x (fun q => GW p l e R s m args below meth c Qw b0 zad cs D nL q k n ls st H) offs.toList lo) : GW p l e R s m args below meth c Qw b0 zad cs D nL pc k n ls (vI x :: st) H := by
  intro hL hp locs lsA cells slots w hl h1 h2
  obtain ⟨hx, hb, hml, hown, hts, hK, hb0, hE⟩ := C
  by_cases hout : x < lo ∨ hi < x
  · exact lv_tableOut hx hb hd (by rw [z_i32 hx32]; exact hout) (Int.toNat_of_nonneg (hoffs dflt (by simp))).symm (Kd hout hL hp locs lsA cells slots w hl h1 h2)
  · have key : ∀ (r : List Int) (k0 : Int), swT pc x (fun q => GW p l e R s m args below meth c Qw b0 zad cs D nL q k n ls st H) r k0 → ∀ (j : Nat) (o : Int), r[j]? = some o → x = k0 + j → GW p l e R s m args below meth c Qw b0 zad cs D nL (jmp pc o) k n ls st H := by
      intro r
      induction r with
      | nil => intro k0 _ j o hj; simp at hj
      | cons a r ih =>
        intro k0 hs j o hj hxk
        cases j with
        | zero =>
          simp at hj
          subst hj
          exact hs.1 (by simpa using hxk)
        | succ j => exact ih (k0 + 1) hs.2 j o (by simpa using hj) (by rw [hxk]; push_cast; omega)
    have hj : (x - lo).toNat < offs.toList.length := by omega
    obtain ⟨o, ho⟩ : ∃ o, offs.toList[(x - lo).toNat]? = some o := ⟨_, List.getElem?_eq_getElem hj⟩
    have hG := key offs.toList lo Kt (x - lo).toNat o ho (by omega)
    exact lv_tableIn hx hb hd (by rw [z_i32 hx32]; omega) (by rw [z_i32 hx32]; omega) (by rw [z_i32 hx32, ← Array.getElem?_toList]; exact ho) (Int.toNat_of_nonneg (hoffs o (List.mem_cons_of_mem _ (List.mem_of_getElem? ho)))).symm (hG hL hp locs lsA cells slots w hl h1 h2)
theorem o_lsw {dflt : Int} {ps : Array (Int × Int)} {len : Nat} {x : Int} (C : CX p s m args c cc nL own b0 zad cs D sc) (hx32 : i32 x) (hd : decode cc pc = .ok (.lookupswitch dflt ps, len)) (hsort : (ps.toList.zip (ps.toList.drop 1)).all (fun (a, next) => a.1 < next.1) = true) (ho0 : 0 ≤ (pc : Int) + dflt) (hoffs : ∀ o ∈ ps.toList, 0 ≤ (pc : Int) + o.2)
    (Kt : swL pc x (fun q => GW p l e R s m args below meth c Qw b0 zad cs D nL q k n ls st H) dflt ps.toList) : GW p l e R s m args below meth c Qw b0 zad cs D nL pc k n ls (vI x :: st) H := by
  intro hL hp locs lsA cells slots w hl h1 h2
  obtain ⟨hx, hb, hml, hown, hts, hK, hb0, hE⟩ := C
  have key : ∀ r : List (Int × Int), (∀ o ∈ r, 0 ≤ (pc : Int) + o.2) → swL pc x (fun q => GW p l e R s m args below meth c Qw b0 zad cs D nL q k n ls st H) dflt r → 0 ≤ (pc : Int) + Op.lookupswitch.offset r dflt x ∧ GW p l e R s m args below meth c Qw b0 zad cs D nL (jmp pc (Op.lookupswitch.offset r dflt x)) k n ls st H := by
    intro r
    induction r with
    | nil => intro _ hs; exact ⟨ho0, hs⟩
    | cons a r ih =>
      intro hr hs
      obtain ⟨k0, o⟩ := a
      rw [Op.lookupswitch.offset_cons]
      by_cases hk : x = k0
      · rw [if_pos hk.symm]
        exact ⟨hr (k0, o) (by simp), hs.1 hk⟩
      · rw [if_neg (fun q => hk q.symm)]
        exact ih (fun o ho => hr o (List.mem_cons_of_mem _ ho)) (hs.2 hk)
  obtain ⟨g1, g2⟩ := key ps.toList hoffs Kt
  exact lv_lookup hx hb hd hsort (by rw [z_i32 hx32]) (Int.toNat_of_nonneg g1).symm (g2 hL hp locs lsA cells slots w hl h1 h2)
end STR
