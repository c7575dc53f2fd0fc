section CT
def look {α : Type} (z : Nat → Nat → α) : List (Nat × Nat × α) → Nat → Nat → α
  | [], p, i => z p i
  | (q, j, x) :: l, p, i => if p = q then (if i = j then x else look z l p i) else look z l p i
def frsh {α : Type} (l : List (Nat × Nat × α)) (p : Nat) : Bool := l.all fun e => Nat.blt e.1 p
abbrev HC : Type := List (Nat × Nat) × List (Nat × Nat × Nat) × List (Nat × Nat × Int)
/-- no references yet, but as Texts will have them -/
def zR (p i : Nat) : Nat := if p < 149 then 0 else Rd p i
def zI (_ _ : Nat) : Int := 0
def toH (c : HC) : HS := (c.1, look zR c.2.1, look zI c.2.2)
theorem look_up {α : Type} (z : Nat → Nat → α) (l : List (Nat × Nat × α)) (p i : Nat) (x : α) : up (look z l) p i x = look z ((p, i, x) :: l) := by
  funext q j; rfl
theorem look_fr {α : Type} (z : Nat → Nat → α) : ∀ (l : List (Nat × Nat × α)) (p : Nat), frsh l p = true → ∀ q i, p ≤ q → look z l q i = z q i
  | [], _, _, _, _, _ => rfl
  | (a, j, x) :: l, p, h, q, i, hq => by
    unfold frsh at h
    rw [List.all_cons, Bool.and_eq_true] at h
    have h1 : a < p := by have := h.1; exact Nat.le_of_ble_eq_true this
    show (if q = a then (if i = j then x else look z l q i) else look z l q i) = z q i
    rw [if_neg (by omega)]
    exact look_fr z l p h.2 q i hq
theorem look_row {α : Type} (z : Nat → Nat → α) (x : α) (l : List (Nat × Nat × α)) (p : Nat) (hz : ∀ i, z p i = x) (h : frsh l p = true) : rowOf (look z l) p (fun _ => x) = look z l := by
  funext q i
  unfold rowOf
  by_cases e : q = p
  · rw [if_pos e, look_fr z l p h q i (by omega), e, hz]
  · rw [if_neg e]
theorem zR_lt {p : Nat} (h : p < 149) (i : Nat) : zR p i = 0 := by unfold zR; rw [if_pos h]
theorem zI_0 (p i : Nat) : zI p i = 0 := rfl
def mkrow (L : Nat) : Nat → List (Nat × Nat × Nat) → List (Nat × Nat × Nat)
  | 0, l => l
  | m + 1, l => (L, m, L + 1 + m) :: mkrow L m l
theorem look_mkrow (L : Nat) (l : List (Nat × Nat × Nat)) (hL : L < 149) (h : frsh l L = true) : ∀ m, look zR (mkrow L m l) = rowOf (look zR l) L (fun i => if i < m then L + 1 + i else 0)
  | 0 => by
    funext q i
    unfold rowOf
    by_cases e : q = L
    · rw [if_pos e]; show look zR l q i = _; rw [look_fr zR l L h q i (by omega), e, zR_lt hL]; simp
    · rw [if_neg e]; rfl
  | m + 1 => by
    have ih := look_mkrow L l hL h m
    funext q i
    show (if q = L then (if i = m then L + 1 + m else look zR (mkrow L m l) q i) else look zR (mkrow L m l) q i) = _
    rw [ih]
    unfold rowOf
    by_cases e : q = L
    · by_cases e2 : i = m
      · subst e2; simp [e]
      · have : (i < m + 1) = (i < m) := by apply propext; omega
        simp only [e, e2, this, if_true, if_false]
    · simp only [e, if_false]
theorem look_band (l : List (Nat × Nat × Int)) (L a : Nat) (h : frsh l L = true) : (fun p i => if L < p ∧ p ≤ L + a then 0 else look zI l p i) = look zI l := by
  funext p i
  by_cases e : L < p ∧ p ≤ L + a
  · rw [if_pos e, look_fr zI l L h p i (by omega), zI_0]
  · rw [if_neg e]
abbrev SX : Type := Nat × Nat × LV × List V × HC
/-- a straight instruction -/
def sx (i : Instr) (x y : Int) (k n : Nat) (ls : LV) (st : List V) (H : HC) : Option SX := match i with
  | .iconst c => some (k, n, ls, vI c :: st, H)
  | .bipush c => some (k, n, ls, vI c :: st, H)
  | .sipush c => some (k, n, ls, vI c :: st, H)
  | .iload_n i => match ls[(i : Nat)]? with
    | some (some (.inl a)) => some (k, n, ls, vI a :: st, H)
    | _ => none
  | .aload_n i => match ls[(i : Nat)]? with
    | some (some (.inr (.inr a))) => some (k, n, ls, .inr (.inr a) :: st, H)
    | _ => none
  | .istore_n i => match st with
    | .inl a :: s => if (i : Nat) < ls.length then some (k, n, lput ls (i : Nat) (vI a), s, H) else none
    | _ => none
  | .iinc i c => match ls[i]? with
    | some (some (.inl a)) => some (k, n, lput ls i (vI (a + c)), st, H)
    | _ => none
  | .dup => match st with
    | .inl a :: s => some (k, n, ls, .inl a :: .inl a :: s, H)
    | .inr (.inr a) :: s => some (k, n, ls, .inr (.inr a) :: .inr (.inr a) :: s, H)
    | _ => none
  | .iastore => match st with
    | .inl a :: .inl i :: .inr (.inr (.inl p)) :: s => match H.1[p]? with
      | some (0, N) => if p ≠ 0 ∧ 0 ≤ i ∧ i < (N : Int) then some (k, n, ls, s, (H.1, H.2.1, (p, i.toNat, a) :: H.2.2)) else none
      | _ => none
    | _ => none
  | .getfield _ => match st with
    | .inr (.inr (.inl p)) :: s => if p ≠ 0 ∧ 0 ≤ x ∧ H.1[p]? = some (10 + x.toNat, nfs x.toNat) then some (k, n, ls, getv (toH H) x.toNat p y.toNat :: s, H) else none
    | _ => none
  | .putfield _ => match st with
    | .inl a :: .inr (.inr (.inl p)) :: s => if p ≠ 0 ∧ H.1[p]? = some (10 + x.toNat, nfs x.toNat) then (match fty x.toNat y.toNat with
        | 0 => some (k, n, ls, s, (H.1, H.2.1, (p, y.toNat, a) :: H.2.2))
        | 3 => if a = 0 ∨ a = 1 then some (k, n, ls, s, (H.1, H.2.1, (p, y.toNat, a) :: H.2.2)) else none
        | _ => none) else none
    | .inr (.inr (.inl q)) :: .inr (.inr (.inl p)) :: s => if p ≠ 0 ∧ H.1[p]? = some (10 + x.toNat, nfs x.toNat) then (match fty x.toNat y.toNat with
        | 2 => some (k, n, ls, s, (H.1, (p, y.toNat, q) :: H.2.1, H.2.2))
        | _ => none) else none
    | _ => none
  | .new _ => if (1 ≤ k ∧ nfs x.toNat ≤ n) ∧ (H.1.length < 149 ∧ frsh H.2.1 H.1.length = true) ∧ frsh H.2.2 H.1.length = true then some (k - 1, n - nfs x.toNat, ls, vR H.1.length :: st, (H.1 ++ [(10 + x.toNat, nfs x.toNat)], H.2)) else none
  | .newarray t => match t, st with
    | .int, .inl a :: s => if (0 ≤ a ∧ a ≤ 100000 ∧ 1 ≤ k ∧ a.toNat ≤ n) ∧ frsh H.2.2 H.1.length = true then some (k - 1, n - a.toNat, ls, vR H.1.length :: s, (H.1 ++ [(0, a.toNat)], H.2)) else none
    | .long, .inl a :: s => if (0 ≤ a ∧ a ≤ 100000 ∧ 1 ≤ k ∧ a.toNat ≤ n) ∧ frsh H.2.2 H.1.length = true then some (k - 1, n - a.toNat, ls, vR H.1.length :: s, (H.1 ++ [(1, a.toNat)], H.2)) else none
    | _, _ => none
  | .anewarray _ => match st with
    | .inl a :: s => if (0 ≤ a ∧ a ≤ 100000 ∧ 1 ≤ k ∧ a.toNat ≤ n) ∧ H.1.length < 149 ∧ frsh H.2.1 H.1.length = true then some (k - 1, n - a.toNat, ls, vR H.1.length :: s, (H.1 ++ [(3, a.toNat)], H.2)) else none
    | _ => none
  | .multianewarray _ dm => match dm, st with
    | 2, .inl b :: .inl a :: s => if (0 ≤ a ∧ a ≤ 1000 ∧ 0 ≤ b ∧ b ≤ 1000 ∧ 1 + a.toNat ≤ k ∧ a.toNat + a.toNat * b.toNat ≤ n) ∧ (H.1.length < 149 ∧ frsh H.2.1 H.1.length = true) ∧ frsh H.2.2 H.1.length = true then
        some (k - (1 + a.toNat), n - (a.toNat + a.toNat * b.toNat), ls, vR H.1.length :: s, (H.1 ++ ((2, a.toNat) :: List.replicate a.toNat (0, b.toNat)), mkrow H.1.length a.toNat H.2.1, H.2.2)) else none
    | _, _ => none
  | .invokespecial _ => match y with
    | -1 => match st with
      | .inr (.inr (.inl p)) :: s => if p ≠ 0 ∧ csum s ≤ 8 then some (k, n, ls, s, H) else none
      | _ => none
    | _ => none
  | _ => none
variable {sc : List Int} {J : Nat → Nat → Nat → LV → List V → HS → Prop} {Rt : V → HS → Prop} {Cl : Nat → List V → HS → (V → HS → Prop) → Prop} {kk : Nat → Nat → LV → List V → HS → Prop}
theorem sx_ok {pc : Nat} {i : Instr} {x y : Int} {k n k' n' : Nat} {ls ls' : LV} {st st' : List V} {H H' : HC} (h : sx i x y k n ls st H = some (k', n', ls', st', H')) (hk : kk k' n' ls' st' (toH H')) : stp sc J Rt Cl pc i x y kk k n ls st (toH H) := by
  unfold sx at h
  split at h
  · cases h; exact hk
  · cases h; exact hk
  · cases h; exact hk
  · split at h
    · rename_i e; cases h; unfold stp; simp only [e]; exact hk
    · cases h
  · split at h
    · rename_i e; cases h; unfold stp; simp only [e]; exact hk
    · cases h
  · split at h
    · split at h
      · rename_i e; cases h; exact ⟨e, hk⟩
      · cases h
    · cases h
  · split at h
    · rename_i e; cases h; unfold stp; simp only [e]; exact hk
    · cases h
  · split at h
    · cases h; exact hk
    · cases h; exact hk
    · cases h
  · split at h
    · split at h
      · rename_i N e
        split at h
        · rename_i c; cases h; refine ⟨N, ⟨c.1, e⟩, c.2, ?_⟩; rw [show (toH H).2.2 = look zI H.2.2 from rfl, look_up]; exact hk
        · cases h
      · cases h
    · cases h
  · split at h
    · split at h
      · rename_i c; cases h; exact ⟨c, hk⟩
      · cases h
    · cases h
  · split at h
    · split at h
      · rename_i c
        split at h
        · rename_i e; cases h; refine ⟨c, ?_⟩; rw [e]; show kk _ _ _ _ (_, _, up _ _ _ _); rw [show (toH H).2.2 = look zI H.2.2 from rfl, look_up]; exact hk
        · rename_i e; split at h
          · rename_i c2; cases h; refine ⟨c, ?_⟩; rw [e]; refine ⟨c2, ?_⟩; show kk _ _ _ _ (_, _, up _ _ _ _); rw [show (toH H).2.2 = look zI H.2.2 from rfl, look_up]; exact hk
          · cases h
        · cases h
      · cases h
    · split at h
      · rename_i c
        split at h
        · rename_i e; cases h; refine ⟨c, ?_⟩; rw [e]; show kk _ _ _ _ (_, up _ _ _ _, _); rw [show (toH H).2.1 = look zR H.2.1 from rfl, look_up]; exact hk
        · cases h
      · cases h
    · cases h
  · split at h
    · rename_i c; cases h; refine ⟨c.1, ?_⟩
      show kk _ _ _ (vR H.1.length :: _) (H.1 ++ _, rowOf (look zR H.2.1) H.1.length (fun _ => 0), rowOf (look zI H.2.2) H.1.length (fun _ => 0))
      rw [look_row zR 0 _ _ (zR_lt c.2.1.1) c.2.1.2, look_row zI 0 _ _ (zI_0 _) c.2.2]; exact hk
    · cases h
  · split at h
    · split at h
      · rename_i c; cases h; refine ⟨c.1, ?_⟩
        show kk _ _ _ (vR H.1.length :: _) (H.1 ++ _, _, rowOf (look zI H.2.2) H.1.length (fun _ => 0))
        rw [look_row zI 0 _ _ (zI_0 _) c.2]; exact hk
      · cases h
    · split at h
      · rename_i c; cases h; refine ⟨c.1, ?_⟩
        show kk _ _ _ (vR H.1.length :: _) (H.1 ++ _, _, rowOf (look zI H.2.2) H.1.length (fun _ => 0))
        rw [look_row zI 0 _ _ (zI_0 _) c.2]; exact hk
      · cases h
    · cases h
  · split at h
    · split at h
      · rename_i c; cases h; refine ⟨c.1, ?_⟩
        show kk _ _ _ (vR H.1.length :: _) (H.1 ++ _, rowOf (look zR H.2.1) H.1.length (fun _ => 0), _)
        rw [look_row zR 0 _ _ (zR_lt c.2.1) c.2.2]; exact hk
      · cases h
    · cases h
  · split at h
    · rename_i b2 a2 s2
      split at h
      · rename_i c; cases h; refine ⟨c.1, ?_⟩
        show kk _ _ _ (vR H.1.length :: _) (H.1 ++ _, rowOf (look zR H.2.1) H.1.length (fun i => if i < a2.toNat then H.1.length + 1 + i else 0), fun p i => if H.1.length < p ∧ p ≤ H.1.length + a2.toNat then 0 else look zI H.2.2 p i)
        rw [look_band _ _ _ c.2.2, ← look_mkrow _ _ c.2.1.1 c.2.1.2]; exact hk
      · cases h
    · cases h
  · split at h
    · split at h
      · split at h
        · rename_i c; cases h; exact ⟨c, hk⟩
        · cases h
      · cases h
    · cases h
  · cases h
end CT
