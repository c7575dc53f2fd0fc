def rf (b0 q : Nat) : Option Nat := if q = 0 then none else some (b0 + q)
def cv (b0 : Nat) (zad : Nat → Nat) (v : V) : Value := match v with
  | .inl x => .int (Int32.ofInt x)
  | .inr (.inl x) => .long (Int64.ofInt x)
  | .inr (.inr (.inl p)) => va_rf (rf b0 p)
  | .inr (.inr (.inr z)) => .ref (zad z)
theorem cv_ref {b0 : Nat} {zad : Nat → Nat} {p : Nat} (h : p ≠ 0) : cv b0 zad (vR p) = .ref (b0 + p) := by
  show va_rf (rf b0 p) = _
  unfold rf
  rw [if_neg h]
  rfl
def lvl (b0 : Nat) (zad : Nat → Nat) : Nat → LV → List (Nat × Value)
  | _, [] => []
  | i, none :: r => lvl b0 zad (i + 1) r
  | i, some v :: r => (i, cv b0 zad v) :: lvl b0 zad (i + 1) r
theorem mem_lvl {b0 : Nat} {zad : Nat → Nat} (w : Nat × Value) : ∀ (ls : LV) (i : Nat), w ∈ lvl b0 zad i ls ↔ ∃ q v, ls[q]? = some (some v) ∧ w = (i + q, cv b0 zad v)
  | [], i => by simp [lvl]
  | none :: r, i => by
    rw [lvl, mem_lvl w r (i + 1)]
    constructor
    · rintro ⟨q, v, h1, h2⟩
      exact ⟨q + 1, v, by simpa using h1, by rw [h2]; congr 1; omega⟩
    · rintro ⟨q, v, h1, h2⟩
      cases q with
      | zero => simp at h1
      | succ q => exact ⟨q, v, by simpa using h1, by rw [h2]; congr 1; omega⟩
  | some v0 :: r, i => by
    rw [lvl, List.mem_cons, mem_lvl w r (i + 1)]
    constructor
    · rintro (h | ⟨q, v, h1, h2⟩)
      · exact ⟨0, v0, rfl, by rw [h]; rfl⟩
      · exact ⟨q + 1, v, by simpa using h1, by rw [h2]; congr 1; omega⟩
    · rintro ⟨q, v, h1, h2⟩
      cases q with
      | zero =>
        left
        rw [h2]
        simp at h1
        rw [h1]; rfl
      | succ q => exact Or.inr ⟨q, v, by simpa using h1, by rw [h2]; congr 1; omega⟩
theorem lv_mono {ls : Array Slot} {nL : Nat} {l l' : List (Nat × Value)} (h : lv_has ls nL l) (hs : ∀ q ∈ l', q ∈ l) : lv_has ls nL l' := ⟨h.1, h.2.1, fun q hq => h.2.2 q (hs q hq)⟩
theorem lvl_at {b0 : Nat} {zad : Nat → Nat} {lsA : Array Slot} {nL : Nat} {ls : LV} (h : lv_has lsA nL (lvl b0 zad 0 ls)) {i : Nat} {v : V} (hv : ls[i]? = some (some v)) : lsA[i]? = some (.val (cv b0 zad v)) :=
  h.2.2 (i, cv b0 zad v) ((mem_lvl _ _ _).mpr ⟨i, v, hv, by simp⟩)
theorem kill_get {ls : LV} {i q : Nat} {v : V} (h : (kill ls i)[q]? = some (some v)) : ls[q]? = some (some v) ∧ (q + 1 = i → sw2 v = false) := by
  unfold kill at h
  cases i with
  | zero => exact ⟨h, fun e => by omega⟩
  | succ j =>
    dsimp only at h
    split at h
    · rename_i x hx
      rw [List.getElem?_set] at h
      split at h
      · split at h <;> simp at h
      · rename_i hne
        exact ⟨h, fun e => absurd (by omega : j = q) hne⟩
    · rename_i hx
      refine ⟨h, fun e => ?_⟩
      have : q = j := by omega
      subst this
      cases v with
      | inl x => rfl
      | inr v =>
        cases v with
        | inl x => exact absurd h (hx x)
        | inr v => rfl
theorem kill_len (ls : LV) (i : Nat) : (kill ls i).length = ls.length := by
  unfold kill
  cases i with
  | zero => rfl
  | succ j => dsimp only; split <;> simp
theorem cv_cat {b0 : Nat} {zad : Nat → Nat} (v : V) : ((cv b0 zad v).category == 2) = sw2 v := by
  rcases v with x | x | p | z
  · rfl
  · rfl
  · show ((va_rf (rf b0 p)).category == 2) = false
    unfold rf
    split <;> rfl
  · rfl
theorem lvl_put {b0 : Nat} {zad : Nat → Nat} {ls : LV} {i : Nat} {v : V} : ∀ q ∈ lvl b0 zad 0 (lput ls i v), q ∈ (i, cv b0 zad v) :: (lvl b0 zad 0 ls).filter (fun q => !(q.1 == i) && !(q.1 + 1 == i && q.2.category == 2)) := by
  intro q hq
  obtain ⟨j, w, h1, h2⟩ := (mem_lvl _ _ _).mp hq
  subst h2
  unfold lput at h1
  rw [List.getElem?_set] at h1
  split at h1
  · rename_i e
    subst e
    split at h1
    · simp at h1
      subst h1
      simp
    · simp at h1
  · rename_i hne
    obtain ⟨h3, h4⟩ := kill_get h1
    refine List.mem_cons_of_mem _ (List.mem_filter.mpr ⟨(mem_lvl _ _ _).mpr ⟨j, w, h3, rfl⟩, ?_⟩)
    simp only [Nat.zero_add, cv_cat]
    have : ¬ j = i := fun e => hne e.symm
    by_cases e : j + 1 = i
    · simp [this, h4 e]
    · simp [this, e]
theorem lvl_put2 {b0 : Nat} {zad : Nat → Nat} {ls : LV} {i : Nat} {v : V} : ∀ q ∈ lvl b0 zad 0 (lput2 ls i v), q ∈ (i, cv b0 zad v) :: (lvl b0 zad 0 ls).filter (fun q => !(q.1 == i) && (!(q.1 == i + 1) && !(q.1 + 1 == i && q.2.category == 2))) := by
  intro q hq
  obtain ⟨j, w, h1, h2⟩ := (mem_lvl _ _ _).mp hq
  subst h2
  unfold lput2 at h1
  rw [List.getElem?_set] at h1
  split at h1
  · split at h1 <;> simp at h1
  rename_i hne1
  rw [List.getElem?_set] at h1
  split at h1
  · rename_i e
    subst e
    split at h1
    · simp at h1
      subst h1
      simp
    · simp at h1
  · rename_i hne
    obtain ⟨h3, h4⟩ := kill_get h1
    refine List.mem_cons_of_mem _ (List.mem_filter.mpr ⟨(mem_lvl _ _ _).mpr ⟨j, w, h3, rfl⟩, ?_⟩)
    simp only [Nat.zero_add, cv_cat]
    have t1 : ¬ j = i := fun e => hne e.symm
    have t2 : ¬ j = i + 1 := fun e => hne1 e.symm
    by_cases e : j + 1 = i
    · simp [t1, t2, h4 e]
    · simp [t1, t2, e]
theorem lput_len (ls : LV) (i : Nat) (v : V) : (lput ls i v).length = ls.length := by simp [lput, kill_len]
theorem lput2_len (ls : LV) (i : Nat) (v : V) : (lput2 ls i v).length = ls.length := by simp [lput2, kill_len]
-- the world of places
def fA (b0 : Nat) : Nat → Prop := fun q => b0 < q
abbrev zcl : List vw_C := [(RX0, TX0, 4), (RX1, TX1, 8), (RX2, TX2, 3), (RX3, TX3, 4), (RX4, TX4, 8), (RX5, TX5, 6), (RX6, TX6, 16), (RX7, TX7, 18), (RX8, TX8, 7), (RX9, TX9, 7), (RX10, TX10, 7), (RX11, TX11, 9), (RX12, TX12, 32)]
def cellE (b0 : Nat) (zad : Nat → Nat) (cs : Nat → ClassId) (H : HS) (p : Nat) : va_E := match H.1.getD p (99, 0) with
  | (0, N) => .inl (cs 0, N, .inl (fun i => Int32.ofInt (H.2.2 p i)))
  | (1, N) => .inl (cs 1, N, .inr (.inl (fun i => Int64.ofInt (H.2.2 p i))))
  | (2, N) => .inl (cs 2, N, .inr (.inr (.inr (.inr (fun i => rf b0 (H.2.1 p i))))))
  | (3, N) => .inl (cs 3, N, .inr (.inr (.inr (.inr (fun i => rf b0 (H.2.1 p i))))))
  | (d, _) => .inr (d - 10, (List.range (nfs (d - 10))).map (fun i => cv b0 zad (getv H (d - 10) p i)))
def wsH (b0 : Nat) (zad : Nat → Nat) (cs : Nat → ClassId) (H : HS) : va_W := (List.range (H.1.length - 1)).map (fun j => (b0 + (j + 1), cellE b0 zad cs H (j + 1)))
theorem wsH_get {b0 : Nat} {zad : Nat → Nat} {cs : Nat → ClassId} {H : HS} {p : Nat} (h0 : p ≠ 0) (h1 : p < H.1.length) : (wsH b0 zad cs H)[p - 1]? = some (b0 + p, cellE b0 zad cs H p) := by
  unfold wsH
  rw [List.getElem?_map, List.getElem?_range (by omega)]
  simp [show p - 1 + 1 = p by omega]
theorem wsH_some {b0 : Nat} {zad : Nat → Nat} {cs : Nat → ClassId} {H : HS} {k : Nat} {q : Nat × va_E} (h : (wsH b0 zad cs H)[k]? = some q) : k + 1 < H.1.length ∧ q = (b0 + (k + 1), cellE b0 zad cs H (k + 1)) := by
  unfold wsH at h
  rw [List.getElem?_map] at h
  by_cases hk : k < H.1.length - 1
  · rw [List.getElem?_range hk] at h
    exact ⟨by omega, (Option.some.inj h).symm⟩
  · rw [List.getElem?_eq_none (by simpa using hk)] at h
    cases h
def tysC (cs : Nat → ClassId) : List (ClassId × FieldType) := [(cs 0, .int), (cs 1, .long), (cs 2, .array .int), (cs 3, .object "UntilHeConfesses$Text")]
/-- the world at a heap -/
def WD (b0 : Nat) (zad : Nat → Nat) (cs : Nat → ClassId) (D : va_G) (H0 : Heap) (H : HS) (hp : Heap) (locs : List Loc) : Prop :=
  1 ≤ H.1.length ∧ hp.size = b0 + H.1.length ∧ (∀ (p d N : Nat), H.1[p]? = some (d, N) → N ≤ 100000) ∧ va_P D zcl (wsH b0 zad cs H) hp ∧ va_S (fA b0) H0 hp locs
theorem wsH_D {b0 : Nat} {zad : Nat → Nat} {cs : Nat → ClassId} {H : HS} : va_D (fA b0) (wsH b0 zad cs H) := by
  refine ⟨fun i j p q h1 h2 e => ?_, fun k q h => ?_⟩
  · obtain ⟨-, e1⟩ := wsH_some h1
    obtain ⟨-, e2⟩ := wsH_some h2
    rw [e1, e2] at e
    dsimp only at e
    omega
  · obtain ⟨-, e1⟩ := wsH_some h
    rw [e1]
    show b0 < b0 + (k + 1)
    omega
theorem wsH_set {b0 : Nat} {zad : Nat → Nat} {cs : Nat → ClassId} {H H' : HS} {p : Nat} {e : va_E} (hl : H'.1 = H.1) (h0 : p ≠ 0) (h1 : p < H.1.length) (he : cellE b0 zad cs H' p = e) (ho : ∀ q, q ≠ p → cellE b0 zad cs H' q = cellE b0 zad cs H q) :
    (wsH b0 zad cs H).set (p - 1) (b0 + p, e) = wsH b0 zad cs H' := by
  apply List.ext_getElem?
  intro k
  unfold wsH
  rw [hl, List.getElem?_set, List.length_map, List.length_range]
  by_cases hk : p - 1 = k
  · subst hk
    rw [if_pos rfl, if_pos (by omega), List.getElem?_map, List.getElem?_range (by omega)]
    simp [show p - 1 + 1 = p by omega, he]
  · rw [if_neg hk, List.getElem?_map, List.getElem?_map]
    by_cases hr : k < H.1.length - 1
    · rw [List.getElem?_range hr]
      simp [ho (k + 1) (by omega)]
    · rw [List.getElem?_eq_none (by simpa using hr)]
      rfl
theorem cv_cat1 {b0 : Nat} {zad : Nat → Nat} {v : V} (h : sw2 v = false) : (cv b0 zad v).category = 1 := by
  have h2 := cv_cat (b0 := b0) (zad := zad) v
  rw [h] at h2
  rcases lv_cat (cv b0 zad v) with h3 | h3
  · exact h3
  · rw [h3] at h2; cases h2
