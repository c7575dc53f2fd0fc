-- what the words say of the classes (places by wip/whole/gen_tabs)
def uw_pos (c : Nat) : List Nat := [[448, 450, 452, 454], [290, 292, 294, 296, 298, 300, 302, 304], [406, 408, 410], [254, 256, 258, 260], [471, 473, 475, 477, 479, 481, 483, 485], [425, 427, 429, 431, 433, 435], [364, 366, 368, 370, 372, 374, 376, 378, 380, 382, 384, 386, 388, 390, 392, 394], [196, 198, 200, 202, 204, 206, 208, 210, 212, 214, 216, 218, 220, 222, 224, 226, 228, 230], [325, 327, 329, 331, 333, 335, 337], [789, 791, 793, 795, 797, 799, 801], [501, 503, 505, 507, 509, 511, 513], [525, 527, 529, 531, 533, 535, 537, 539, 541], [1541, 1543, 1545, 1547, 1549, 1551, 1553, 1555, 1557, 1559, 1561, 1563, 1565, 1567, 1569, 1571, 1573, 1575, 1577, 1579, 1581, 1583, 1585, 1587, 1589, 1591, 1593, 1595, 1597, 1599, 1601, 1603]].getD c []
theorem uw_ok : ((List.range 13).all (fun c => decide ((uw_pos c).map (fun p => lw_tbl[p]?) = (u_ws (cnm c) (TXs c) (nfs c)).map some))) = true := by decide +kernel
theorem uw_z : ((List.range 13).all (fun c => (u_ws (cnm c) (TXs c) (nfs c)).all zk)) = true := by decide +kernel
theorem uw_in {c : Nat} (h : c < 13) : ∀ w ∈ u_ws (cnm c) (TXs c) (nfs c), w ∈ ztbl := by
  intro w hw
  refine zin ?_ (List.all_eq_true.mp (List.all_eq_true.mp uw_z c (List.mem_range.mpr h)) w hw)
  have h1 := of_decide_eq_true (List.all_eq_true.mp uw_ok c (List.mem_range.mpr h))
  have h2 : some w ∈ (uw_pos c).map (fun p => lw_tbl[p]?) := by rw [h1]; exact List.mem_map.mpr ⟨w, hw, rfl⟩
  obtain ⟨p, -, hp⟩ := List.mem_map.mp h2
  exact List.mem_of_getElem? hp
theorem TX_own : ∀ c, c < 13 → ∀ k, k < nfs c → (TXs c k).1 = cnm c := by decide +kernel
theorem TX_nm : ∀ c, c < 13 → ∀ a, a < nfs c → ∀ b, b < nfs c → a ≠ b → (TXs c a).2.1 ≠ (TXs c b).2.1 := by decide +kernel
theorem TX_ty : ∀ c, c < 13 → ∀ k, k < nfs c → parseFieldDescriptor (TXs c k).2.2.1 = some (tyXs c k) := by decide +kernel
def isRefT (t : FieldType) : Bool := match t with
  | .object _ => true
  | .array _ => true
  | _ => false
theorem TX_kind : ∀ c, c < 13 → ∀ k, k < nfs c → (fty c k = 0 ∧ tyXs c k = .int) ∨ (fty c k = 1 ∧ tyXs c k = .long) ∨ (fty c k = 2 ∧ isRefT (tyXs c k) = true) ∨ (fty c k = 3 ∧ tyXs c k = .boolean) := by decide +kernel
theorem zcl_get : ∀ c, c < 13 → zcl[c]? = some (cnm c, TXs c, nfs c)
  | 0, _ => rfl
  | 1, _ => rfl
  | 2, _ => rfl
  | 3, _ => rfl
  | 4, _ => rfl
  | 5, _ => rfl
  | 6, _ => rfl
  | 7, _ => rfl
  | 8, _ => rfl
  | 9, _ => rfl
  | 10, _ => rfl
  | 11, _ => rfl
  | 12, _ => rfl
  | c + 13, h => absurd h (by omega)
theorem ft_link {f : Nat × Nat × Nat × Nat × Nat} (h : f ∈ FTab) : ftw f.1 f.2.1 f.2.2.1 f.2.2.2.1 ∈ ztbl := zin (List.mem_of_getElem? (of_decide_eq_true (List.all_eq_true.mp FTab_ok f h))) rfl
