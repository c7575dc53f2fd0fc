-- the law's first rows: both are made
theorem T0x_len : T0x.length = 134 := by decide +kernel
theorem rx0_fr : frsh rx0 134 = true := by decide +kernel
theorem gx0_fr : frsh gx0 134 = true := by decide +kernel
def kS : Nat := 700676 - 1 - Pmc m_X11_init - 1 - Pmc m_X12_init
def nS : Nat := 7000219 - nfs 11 - Pms m_X11_init - nfs 12 - Pms m_X12_init
theorem law_head {sc : List Int} {d : Nat} (hd : d + 6 ≤ 1000) (h : LR sc (d + 6) kS nS 18 [some (vZ 0), some (vR 1), some (vR 134), some (vI 0)] [] (St [] sh0 g0)) :
    LR sc (d + 6) 700676 7000219 0 [some (vZ 0), none, none, none] [] (toH ([(99, 0)], [], [])) := by
  refine G_law_0 hd ?_
  refine ⟨⟨by decide, by decide⟩, ?_⟩
  refine ⟨nz, ⟨by decide +kernel, by decide +kernel⟩, ⟨nle rfl, nle rfl⟩, ?_⟩
  show CallM (d + 6) m_X11_init [vR 1] ([(99, 0)] ++ [(21, 9)], rowOf (look zR []) 1 (fun _ => 0), rowOf (look zI []) 1 (fun _ => 0)) _
  rw [look_row zR 0 [] 1 (zR_lt (by omega)) rfl, look_row zI 0 [] 1 (zI_0 _) rfl]
  refine c_X11_init (d := d) ?_
  refine ⟨nle rfl, ?_⟩
  refine ⟨⟨by decide +kernel, by decide +kernel⟩, ?_⟩
  refine ⟨by show T0x.length ≠ 0; rw [T0x_len]; omega, ⟨by decide +kernel, by decide +kernel⟩, ⟨nle rfl, nle rfl⟩, ?_⟩
  show CallM (d + 6) m_X12_init [vR T0x.length] (T0x ++ [(22, 32)], rowOf (look zR rx0) T0x.length (fun _ => 0), rowOf (look zI gx0) T0x.length (fun _ => 0)) (fun r H' => wp sc _ _ _ _ _ _ _ (pushv _ r [vR T0x.length]) H')
  rw [T0x_len, look_row zR 0 rx0 134 (zR_lt (by omega)) rx0_fr, look_row zI 0 gx0 134 (zI_0 _) gx0_fr]
  refine m_made (d := d) ?_
  refine ⟨nle rfl, ⟨nle rfl, ?_⟩⟩
  exact lwk h ⟨Or.inl rfl, ⟨Or.inl rfl, ⟨Or.inl rfl, ⟨Or.inl rfl, trivial⟩⟩⟩⟩
theorem posR_ok : (List.range 24).all (fun k => decide (lw_tbl[631 + k]? = some (Cond.stringRef RX8 (sidx k) (strs.getD k "")))) = true := by decide +kernel
theorem entry_Z1 {args : Array Value} {s : State} {b0 : Nat} (hs : ∀ w ∈ FL, w.before args s = true) (hts : ∀ w ∈ lw_tbl, w.before args s = true) (hA : ∀ a : Nat, a < s.heap.size → ¬ fA b0 a) : va_Z "java/lang/String" "COMPACT_STRINGS" "Z" (.int 1) (fA b0) s s.heap :=
  va_Zof (hts _ (List.mem_of_getElem? (i := 668) (by decide +kernel))) (hts _ (List.mem_of_getElem? (i := 118) (by decide +kernel))) (va_eqi (hs _ (List.mem_of_getElem? (i := 4) (by decide +kernel)))) hA
theorem entry_Z2 {args : Array Value} {s : State} {b0 : Nat} (hs : ∀ w ∈ FL, w.before args s = true) (hts : ∀ w ∈ lw_tbl, w.before args s = true) (hA : ∀ a : Nat, a < s.heap.size → ¬ fA b0 a) : ∃ (fa : Nat) (fv : Value), (fv = .ref fa ∨ fv = .null) ∧ va_Z "jdk/internal/util/Preconditions" "SIOOBE_FORMATTER" "Ljava/util/function/BiFunction;" fv (fA b0) s s.heap := by
  have h : (Cond.isRef (.static "jdk/internal/util/Preconditions" "SIOOBE_FORMATTER" "Ljava/util/function/BiFunction;")).before args s = true := hs _ (List.mem_of_getElem? (i := 5) (by decide +kernel))
  obtain ⟨v, h1, h2⟩ := Cond.isRef_spec h
  have hZ := va_Zof (A := fA b0) (hts _ (List.mem_of_getElem? (i := 684) (by decide +kernel))) (hts _ (List.mem_of_getElem? (i := 120) (by decide +kernel))) h1 hA
  cases v with
  | ref a => exact ⟨a, .ref a, Or.inl rfl, hZ⟩
  | null => exact ⟨0, .null, Or.inr rfl, hZ⟩
  | _ => simp [Value.isRef] at h2
theorem entry_sc (L : Nat) (xs : Nat → Int32) : ∃ sc : List Int, sc.length = L ∧ (∀ j, j < L → sc.getD j 0 = (xs j).toInt) ∧ ∀ j, i32 (sc.getD j 0) := by
  have h1 : ((List.range L).map (fun j => (xs j).toInt)).length = L := by rw [List.length_map, List.length_range]
  have h2 : ∀ j, j < L → ((List.range L).map (fun j => (xs j).toInt)).getD j 0 = (xs j).toInt := fun j hj => by
    rw [List.getD_eq_getElem?_getD, List.getElem?_map, List.getElem?_range hj]; rfl
  refine ⟨(List.range L).map (fun j => (xs j).toInt), h1, h2, fun j => ?_⟩
  by_cases hj : j < L
  · rw [h2 j hj]
    have a := Int32.le_toInt (xs j)
    have b := Int32.toInt_lt (xs j)
    exact ⟨by omega, by omega⟩
  · rw [List.getD_eq_getElem?_getD, List.getElem?_eq_none (by omega)]
    exact ⟨by decide, by decide⟩
theorem entry_EX {args : Array Value} {s : State} {b b0 L : Nat} {xs : Nat → Int32} {sc : List Int} (hs : ∀ w ∈ FL, w.before args s = true) (hts : ∀ w ∈ lw_tbl, w.before args s = true) (hA : ∀ a : Nat, a < s.heap.size → ¬ fA b0 a) (hX : va_X b L xs s s.heap) (hbl : b < s.heap.size) (hL : L ≤ 3072) (h1 : sc.length = L) (h2 : ∀ j, j < L → sc.getD j 0 = (xs j).toInt) : ∃ zad : Nat → Nat, zad 0 = b ∧ EX b0 zad sc s s.heap := by
  obtain ⟨adK, adV, hS, hE⟩ := entry_S hs hA
  obtain ⟨fa, fv, hfv, hZ2⟩ := entry_Z2 hs hts hA
  obtain ⟨zad, z0, z100, zK⟩ : ∃ zad : Nat → Nat, zad 0 = b ∧ zad 100 = fa ∧ ∀ k, k < 24 → zad (2 * k + 1) = adK k ∧ zad (2 * k + 2) = adV k := by
    refine ⟨fun z => if z = 0 then b else if z = 100 then fa else if z % 2 = 1 then adK (z / 2) else adV (z / 2 - 1), rfl, rfl, fun k hk => ⟨?_, ?_⟩⟩
    · show (if 2 * k + 1 = 0 then b else if 2 * k + 1 = 100 then fa else if (2 * k + 1) % 2 = 1 then adK ((2 * k + 1) / 2) else adV ((2 * k + 1) / 2 - 1)) = adK k
      rw [if_neg (show ¬ 2 * k + 1 = 0 by omega), if_neg (show ¬ 2 * k + 1 = 100 by omega), if_pos (show (2 * k + 1) % 2 = 1 by omega), show (2 * k + 1) / 2 = k by omega]
    · show (if 2 * k + 2 = 0 then b else if 2 * k + 2 = 100 then fa else if (2 * k + 2) % 2 = 1 then adK ((2 * k + 2) / 2) else adV ((2 * k + 2) / 2 - 1)) = adV k
      rw [if_neg (show ¬ 2 * k + 2 = 0 by omega), if_neg (show ¬ 2 * k + 2 = 100 by omega), if_neg (show ¬ (2 * k + 2) % 2 = 1 by omega), show (2 * k + 2) / 2 - 1 = k by omega]
  refine ⟨zad, z0, ⟨fun i hi => ?_, fun i j hi hj e => ?_⟩, fun k hk => ?_, entry_Z1 hs hts hA, ⟨fv, by rw [z100]; exact hfv, hZ2⟩, ?_, ?_, by omega⟩
  · have q := hS.1 i hi
    dsimp only
    rw [(zK i hi).1, (zK i hi).2]
    exact q
  · have e : zad (2 * i + 1) = zad (2 * j + 1) := e
    rw [(zK i hi).1, (zK j hj).1] at e
    exact hS.2 i j hi hj e
  · rw [(zK k hk).1]
    exact vk_R.of (hts _ (List.mem_of_getElem? (of_decide_eq_true (rangeAll posR_ok hk)))) (hE k hk)
  · rw [z0]
    obtain ⟨scr, g1, g2, g3, g4, g5⟩ := hX
    refine ⟨scr, g1, g2, g3, by rw [g4, h1], fun j hj => ?_⟩
    rw [g5 j (by omega)]
    show some (Value.int (xs j)) = some (Value.int (Int32.ofInt (sc.getD j 0)))
    rw [h2 j (by omega), Int32.ofInt_toInt]
  · rw [z0]
    exact hA b hbl
