-- the law's entry: what the start gives
def FL : List Cond := flatC (Jvm.Cond.and given_1 narrow_1)
def posE : List Nat := [9, 18, 28, 38, 52, 68, 82, 95, 112, 128, 145, 164, 185, 206, 226, 249, 272, 298, 325, 348, 376, 402, 429, 458]
def posC : List Nat := [10, 19, 29, 39, 53, 69, 83, 96, 113, 129, 146, 165, 186, 207, 227, 250, 273, 299, 326, 349, 377, 403, 430, 459]
def posA : List Nat := [11, 20, 30, 40, 54, 70, 84, 97, 114, 130, 147, 166, 187, 208, 228, 251, 274, 300, 327, 350, 378, 404, 431, 460]
def posL : List Nat := [12, 21, 31, 41, 55, 71, 85, 98, 115, 131, 148, 167, 188, 209, 229, 252, 275, 301, 328, 351, 379, 405, 432, 461]
def posB : List (List Nat) := [[13, 14, 15, 16, 17], [22, 23, 24, 25, 26], [32, 33, 34, 35], [42, 43, 44, 45, 46, 47, 48], [56, 57, 58, 59, 60, 61, 62, 63], [72, 73, 74, 75, 76], [86, 87, 88], [99, 100, 101, 102, 103, 104], [116, 117, 118, 119], [132, 133, 134, 135], [149, 150, 151, 152, 153], [168, 169, 170, 171, 172, 173], [189, 190, 191, 192, 193], [210, 211, 212], [230, 231, 232, 233, 234], [253, 254, 255, 256], [276, 277, 278, 279, 280, 281], [302, 303, 304, 305, 306, 307], [329], [352, 353, 354, 355, 356], [380, 381], [406, 407], [433, 434, 435], []]
def posN : List (List Nat) := [[0, 27, 36, 49, 64, 77, 89, 105, 120, 136, 154, 174, 194, 213, 235, 257, 282, 308, 330, 357, 382, 408, 436, 462], [0, 0, 37, 50, 65, 78, 90, 106, 121, 137, 155, 175, 195, 214, 236, 258, 283, 309, 331, 358, 383, 409, 437, 463], [0, 0, 0, 51, 66, 79, 91, 107, 122, 138, 156, 176, 196, 215, 237, 259, 284, 310, 332, 359, 384, 410, 438, 464], [0, 0, 0, 0, 67, 80, 92, 108, 123, 139, 157, 177, 197, 216, 238, 260, 285, 311, 333, 360, 385, 411, 439, 465], [0, 0, 0, 0, 0, 81, 93, 109, 124, 140, 158, 178, 198, 217, 239, 261, 286, 312, 334, 361, 386, 412, 440, 466], [0, 0, 0, 0, 0, 0, 94, 110, 125, 141, 159, 179, 199, 218, 240, 262, 287, 313, 335, 362, 387, 413, 441, 467], [0, 0, 0, 0, 0, 0, 0, 111, 126, 142, 160, 180, 200, 219, 241, 263, 288, 314, 336, 363, 388, 414, 442, 468], [0, 0, 0, 0, 0, 0, 0, 0, 127, 143, 161, 181, 201, 220, 242, 264, 289, 315, 337, 364, 389, 415, 443, 469], [0, 0, 0, 0, 0, 0, 0, 0, 0, 144, 162, 182, 202, 221, 243, 265, 290, 316, 338, 365, 390, 416, 444, 470], [0, 0, 0, 0, 0, 0, 0, 0, 0, 0, 163, 183, 203, 222, 244, 266, 291, 317, 339, 366, 391, 417, 445, 471], [0, 0, 0, 0, 0, 0, 0, 0, 0, 0, 0, 184, 204, 223, 245, 267, 292, 318, 340, 367, 392, 418, 446, 472], [0, 0, 0, 0, 0, 0, 0, 0, 0, 0, 0, 0, 205, 224, 246, 268, 293, 319, 341, 368, 393, 419, 447, 473], [0, 0, 0, 0, 0, 0, 0, 0, 0, 0, 0, 0, 0, 225, 247, 269, 294, 320, 342, 369, 394, 420, 448, 474], [0, 0, 0, 0, 0, 0, 0, 0, 0, 0, 0, 0, 0, 0, 248, 270, 295, 321, 343, 370, 395, 421, 449, 475], [0, 0, 0, 0, 0, 0, 0, 0, 0, 0, 0, 0, 0, 0, 0, 271, 296, 322, 344, 371, 396, 422, 450, 476], [0, 0, 0, 0, 0, 0, 0, 0, 0, 0, 0, 0, 0, 0, 0, 0, 297, 323, 345, 372, 397, 423, 451, 477], [0, 0, 0, 0, 0, 0, 0, 0, 0, 0, 0, 0, 0, 0, 0, 0, 0, 324, 346, 373, 398, 424, 452, 478], [0, 0, 0, 0, 0, 0, 0, 0, 0, 0, 0, 0, 0, 0, 0, 0, 0, 0, 347, 374, 399, 425, 453, 479], [0, 0, 0, 0, 0, 0, 0, 0, 0, 0, 0, 0, 0, 0, 0, 0, 0, 0, 0, 375, 400, 426, 454, 480], [0, 0, 0, 0, 0, 0, 0, 0, 0, 0, 0, 0, 0, 0, 0, 0, 0, 0, 0, 0, 401, 427, 455, 481], [0, 0, 0, 0, 0, 0, 0, 0, 0, 0, 0, 0, 0, 0, 0, 0, 0, 0, 0, 0, 0, 428, 456, 482], [0, 0, 0, 0, 0, 0, 0, 0, 0, 0, 0, 0, 0, 0, 0, 0, 0, 0, 0, 0, 0, 0, 457, 483], [0, 0, 0, 0, 0, 0, 0, 0, 0, 0, 0, 0, 0, 0, 0, 0, 0, 0, 0, 0, 0, 0, 0, 484], [0, 0, 0, 0, 0, 0, 0, 0, 0, 0, 0, 0, 0, 0, 0, 0, 0, 0, 0, 0, 0, 0, 0, 0]]
def tmS (i : Nat) : Term := Term.string RX8 (sidx i)
theorem posE_ok : (List.range 24).all (fun i => decide (FL[posE.getD i 0]? = some (Cond.exactly (tmS i) "java/lang/String"))) = true := by decide +kernel
theorem posC_ok : (List.range 24).all (fun i => decide (FL[posC.getD i 0]? = some (Cond.eq (.field (tmS i) "java/lang/String" "coder" "B") (.int 0)))) = true := by decide +kernel
theorem posA_ok : (List.range 24).all (fun i => decide (FL[posA.getD i 0]? = some (Cond.arrayOf (.field (tmS i) "java/lang/String" "value" "[B") .byte))) = true := by decide +kernel
theorem posL_ok : (List.range 24).all (fun i => decide (FL[posL.getD i 0]? = some (Cond.eq (.length (.field (tmS i) "java/lang/String" "value" "[B")) (.int (Int32.ofNat (slens.getD i 0)))))) = true := by decide +kernel
theorem posB_ok : (List.range 24).all (fun i => (List.range (slens.getD i 0)).all (fun j => decide (FL[(posB.getD i []).getD j 0]? = some (Cond.eq (.elem (.field (tmS i) "java/lang/String" "value" "[B") (.int (Int32.ofNat j))) (.int ((sbyts.getD i []).getD j 0)))))) = true := by decide +kernel
theorem posN_ok : (List.range 24).all (fun i => (List.range 24).all (fun j => decide (j ≤ i) || decide (FL[(posN.getD i []).getD j 0]? = some (Cond.not (Cond.eq (tmS i) (tmS j)))))) = true := by decide +kernel
theorem rangeAll {f : Nat → Bool} {n i : Nat} (h : (List.range n).all f = true) (hi : i < n) : f i = true := List.all_eq_true.mp h i (List.mem_range.mpr hi)
theorem entry_S {args : Array Value} {s : State} {b0 : Nat} (hs : ∀ w ∈ FL, w.before args s = true) (hA : ∀ a : Nat, a < s.heap.size → ¬ fA b0 a) : ∃ adK adV : Nat → Nat, vk_S 24 slens sbyts adK adV (fA b0) s s.heap ∧ ∀ i : Nat, i < 24 → (tmS i).eval args s none [] s = some (.ref (adK i)) := by
  have one : ∀ {p : Nat} {w : Cond}, decide (FL[p]? = some w) = true → w.before args s = true := fun h => hs _ (List.mem_of_getElem? (of_decide_eq_true h))
  have hN : ∀ i, i < 24 → slens.getD i 0 < 2 ^ 31 := fun i hi => by
    have h : (List.range 24).all (fun i => decide (slens.getD i 0 < 2 ^ 31)) = true := by decide +kernel
    exact of_decide_eq_true (rangeAll h hi)
  refine vk_Sof (tm := tmS) hN (fun i hi => one (rangeAll posE_ok hi)) (fun i hi => one (rangeAll posC_ok hi)) (fun i hi => one (rangeAll posA_ok hi)) (fun i hi => one (rangeAll posL_ok hi)) (fun i hi j hj => one (rangeAll (rangeAll posB_ok hi) hj)) (fun i j hi hj hne => ?_) hA
  by_cases h : i < j
  · refine Or.inl ?_
    have q := rangeAll (rangeAll posN_ok hi) hj
    rw [Bool.or_eq_true] at q
    exact one (q.resolve_left fun z => absurd (of_decide_eq_true z) (by omega))
  · refine Or.inr ?_
    have q := rangeAll (rangeAll posN_ok hj) hi
    rw [Bool.or_eq_true] at q
    exact one (q.resolve_left fun z => absurd (of_decide_eq_true z) (by omega))
theorem inst_ok : (List.range 13).all (fun c => INab.any (fun f => f.1 == c && f.2.1 == nfs c)) = true := by decide +kernel
theorem entry_C {args : Array Value} {s : State} (hts : ∀ w ∈ ztbl, w.before args s = true) : ∃ D : va_G, ∀ (c : Nat) (q : vw_C), zcl[c]? = some q → u_Kn s q.1 q.2.1 q.2.2 (D.1 c) (D.2 c) := by
  have h : ∀ c : Nat, ∃ q : ClassId × (Nat → Nat), c < 13 → u_Kn s (cnm c) (TXs c) (nfs c) q.1 q.2 := fun c => by
    by_cases hc : c < 13
    · obtain ⟨a, b, hk⟩ := u_known hts (uw_in hc) (hts _ (in_in (rangeAll inst_ok hc)).1)
      exact ⟨(a, b), fun _ => hk⟩
    · exact ⟨(0, fun _ => 0), fun h => absurd h hc⟩
  obtain ⟨f, hf⟩ := Classical.axiomOfChoice h
  refine ⟨(fun c => (f c).1, fun c => (f c).2), fun c q hq => ?_⟩
  by_cases hc : c < 13
  · rw [zcl_get c hc] at hq
    cases hq
    exact hf c hc
  · rw [List.getElem?_eq_none (by show 13 ≤ c; omega)] at hq
    cases hq
theorem entry_A1 {args : Array Value} {s : State} {ty : FieldType} (h : (Cond.arrayClass ty).before args s = true) : ∃ c, ArrOfT s c ty ∧ s.vm.findClass ("[" ++ ty.toString) = some c := by
  obtain ⟨c, k, comp, h1, h2, h3⟩ := Cond.arrayClass_spec h
  exact ⟨c, fun n z => ⟨fun k h => (by cases h), k, h2, comp, h3⟩, h1⟩
theorem entry_A2 {args : Array Value} {s : State} {ty : FieldType} (h : (Cond.arrayOver (.array ty)).before args s = true) : ∃ c, ArrOfT s c (.array ty) ∧ s.vm.findClass ("[" ++ (FieldType.array ty).toString) = some c := by
  obtain ⟨comp, c, k, h0, h2, h3, h1⟩ := Cond.arrayOver_specA h
  exact ⟨c, fun n z => ⟨fun k h => (by cases h), k, h2, comp, h3⟩, h1⟩
theorem entry_A3 {args : Array Value} {s : State} {C : String} (h : (Cond.arrayOver (.object C)).before args s = true) : ∃ c, ArrOfT s c (.object C) ∧ va_RA s c (.object C) := by
  obtain ⟨comp, c, k, h0, h4, h2, h3, h1⟩ := Cond.arrayOver_spec h
  exact ⟨c, fun n z => ⟨fun k h => (by cases h), k, h2, comp, h3⟩, k, comp, h2, h3, h0, h1⟩
theorem entry_K {args : Array Value} {s : State} (hts : ∀ w ∈ ztbl, w.before args s = true) : ∃ (D : va_G) (cs : Nat → ClassId), va_K D zcl (tysC cs) s := by
  obtain ⟨D, hD⟩ := entry_C hts
  obtain ⟨c0, a0, b0⟩ := entry_A1 (hts _ aci_in)
  obtain ⟨c1, a1, b1⟩ := entry_A1 (hts _ acl_in)
  obtain ⟨c2, a2, b2⟩ := entry_A2 (hts _ aoa_in)
  obtain ⟨c3, a3, b3⟩ := entry_A3 (hts _ aot_in)
  refine ⟨D, fun i => if i = 0 then c0 else if i = 1 then c1 else if i = 2 then c2 else c3, hD, fun k q hq => ?_⟩
  match k, hq with
  | 0, hq => cases hq; exact ⟨a0, b0⟩
  | 1, hq => cases hq; exact ⟨a1, b1⟩
  | 2, hq => cases hq; exact ⟨a2, b2⟩
  | 3, hq => cases hq; exact ⟨a3, b3⟩
  | k + 4, hq => simp [tysC] at hq
theorem z135 : g0 135 2 = 0 ∧ g0 135 4 = 0 ∧ g0 135 5 = 0 ∧ g0 135 6 = 0 ∧ g0 135 7 = 0 ∧ g0 135 8 = 0 ∧ g0 135 13 = 0 := by decide +kernel
theorem z136 : g0 136 2 = 0 ∧ g0 136 4 = 0 ∧ g0 136 5 = 0 ∧ g0 136 6 = 0 ∧ g0 136 7 = 0 ∧ g0 136 8 = 0 ∧ g0 136 13 = 0 := by decide +kernel
theorem neg0 {x : Int} {i : Nat} {P : Prop} (h : x = 0) (hi : (i : Int) < x) : P := absurd hi (by omega)
theorem inv0 : Inv [] sh0 g0 := by
  obtain ⟨x2, x4, x5, x6, x7, x8, x13⟩ := z135
  obtain ⟨y2, y4, y5, y6, y7, y8, y13⟩ := z136
  refine ⟨?_, ?_, ?_, ?_, ?_, ?_, ?_, ?_, ?_⟩
  · exact ⟨by decide +kernel, by decide +kernel, by decide +kernel, by decide +kernel, by decide +kernel, by decide +kernel, by decide +kernel, by decide +kernel, by decide +kernel, by decide +kernel, by decide +kernel, by decide +kernel, by decide +kernel, by decide +kernel, fun i hi => neg0 x13 hi⟩
  · exact ⟨by decide +kernel, by decide +kernel, by decide +kernel, by decide +kernel, by decide +kernel, by decide +kernel, fun k hk => neg0 x5 hk, fun k hk => neg0 x6 hk, fun k hk => neg0 x7 hk, fun k hk => neg0 x8 hk⟩
  · exact ⟨by decide +kernel, by decide +kernel, by decide +kernel, by decide +kernel, fun k hk => neg0 x4 hk⟩
  · exact fun t _ hq => neg0 x2 hq
  · exact ⟨by decide +kernel, by decide +kernel, by decide +kernel, by decide +kernel, by decide +kernel, by decide +kernel, by decide +kernel, by decide +kernel, by decide +kernel, by decide +kernel, by decide +kernel, by decide +kernel, by decide +kernel, by decide +kernel, fun i hi => neg0 y13 hi⟩
  · exact ⟨by decide +kernel, by decide +kernel, by decide +kernel, by decide +kernel, by decide +kernel, by decide +kernel, fun k hk => neg0 y5 hk, fun k hk => neg0 y6 hk, fun k hk => neg0 y7 hk, fun k hk => neg0 y8 hk⟩
  · exact ⟨by decide +kernel, by decide +kernel, by decide +kernel, by decide +kernel, fun k hk => neg0 y4 hk⟩
  · exact ⟨fun t _ => Or.inl rfl, fun t _ => Or.inl rfl, by decide +kernel, fun t _ hq => neg0 y2 hq⟩
  · exact ⟨by decide +kernel, by decide +kernel, by decide +kernel, by decide +kernel, by decide +kernel⟩
theorem all_alike : All := ⟨sim_suspect, sim_scene, sim_feed, sim_end, sim_text, sim_fault, sim_by, sim_cut, sim_encore, sim_away, sim_seat, sim_night, sim_played, sim_seasons, sim_undo, sim_ofSuspect, sim_ofScene, sim_is, sim_book, sim_odds, sim_weight, sim_observe, sim_share, sim_tellsMost, sim_guess, sim_both, sim_foretold, sim_habit, sim_firstSign, sim_order, sim_unseen, sim_risk, sim_staysAway, sim_toRun, sim_cuts, sim_lasts, sim_ahead, sim_orders, sim_facing, sim_seating, sim_lonely, sim_bestSeat, sim_worth, sim_torn, sim_sittings, sim_claque, sim_sign, sim_whose, sim_signs, sim_crying, sim_empty, sim_hottest, sim_suspected, sim_falseSigns, sim_image, sim_back, sim_about⟩
