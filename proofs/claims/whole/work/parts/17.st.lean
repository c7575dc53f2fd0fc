-- the layout that the constructors make (by wip/whole/lay.py), and what is said over it
def T0 : List (Nat × Nat) := [(99, 0), (21, 9), (11, 8), (17, 18), (0, 6), (0, 6), (0, 6), (0, 6), (0, 7), (0, 7), (0, 40), (13, 4), (0, 6), (0, 9), (0, 4), (2, 4), (0, 8), (0, 8), (0, 8), (0, 8), (2, 30), (0, 62), (0, 62), (0, 62), (0, 62), (0, 62), (0, 62), (0, 62), (0, 62), (0, 62), (0, 62), (0, 62), (0, 62), (0, 62), (0, 62), (0, 62), (0, 62), (0, 62), (0, 62), (0, 62), (0, 62), (0, 62), (0, 62), (0, 62), (0, 62), (0, 62), (0, 62), (0, 62), (0, 62), (0, 62), (0, 62), (3, 4), (11, 8), (17, 18), (0, 6), (0, 6), (0, 6), (0, 6), (0, 7), (0, 7), (0, 40), (13, 4), (0, 6), (0, 9), (0, 4), (2, 4), (0, 8), (0, 8), (0, 8), (0, 8), (2, 30), (0, 62), (0, 62), (0, 62), (0, 62), (0, 62), (0, 62), (0, 62), (0, 62), (0, 62), (0, 62), (0, 62), (0, 62), (0, 62), (0, 62), (0, 62), (0, 62), (0, 62), (0, 62), (0, 62), (0, 62), (0, 62), (0, 62), (0, 62), (0, 62), (0, 62), (0, 62), (0, 62), (0, 62), (0, 62), (0, 62), (3, 4), (18, 7), (0, 300), (0, 301), (0, 301), (0, 301), (0, 301), (16, 16), (0, 24), (0, 24), (0, 24), (0, 300), (0, 3), (0, 3), (12, 3), (0, 9), (0, 40), (15, 6), (0, 6), (0, 62), (10, 4), (14, 8), (0, 7), (0, 7), (0, 7), (0, 7), (0, 128), (20, 7), (0, 6), (0, 6), (0, 6), (0, 6), (0, 6), (22, 32), (0, 2564), (0, 2564), (0, 2724), (0, 300), (0, 160), (0, 9), (1, 330), (0, 86), (0, 8), (0, 7), (0, 7), (0, 128), (0, 6), (0, 6)]
def R0t : List (List Nat) := [[], [2, 52, 102, 108, 115, 118, 121, 122, 128], [3, 11, 20, 0, 0, 51], [0, 0, 0, 4, 5, 6, 7, 0, 0, 0, 8, 9, 0, 0, 0, 10], [], [], [], [], [], [], [], [12, 13, 14, 15], [], [], [], [16, 17, 18, 19], [], [], [], [], [21, 22, 23, 24, 25, 26, 27, 28, 29, 30, 31, 32, 33, 34, 35, 36, 37, 38, 39, 40, 41, 42, 43, 44, 45, 46, 47, 48, 49, 50], [], [], [], [], [], [], [], [], [], [], [], [], [], [], [], [], [], [], [], [], [], [], [], [], [], [], [], [], [], [], [], [53, 61, 70, 0, 0, 101], [0, 0, 0, 54, 55, 56, 57, 0, 0, 0, 58, 59, 0, 0, 0, 60], [], [], [], [], [], [], [], [62, 63, 64, 65], [], [], [], [66, 67, 68, 69], [], [], [], [], [71, 72, 73, 74, 75, 76, 77, 78, 79, 80, 81, 82, 83, 84, 85, 86, 87, 88, 89, 90, 91, 92, 93, 94, 95, 96, 97, 98, 99, 100], [], [], [], [], [], [], [], [], [], [], [], [], [], [], [], [], [], [], [], [], [], [], [], [], [], [], [], [], [], [], [], [103, 0, 104, 105, 106, 107], [], [], [], [], [], [102, 0, 0, 0, 0, 0, 0, 109, 110, 111, 0, 112, 113, 114], [], [], [], [], [], [], [2, 116, 117], [], [], [2, 3, 115, 119, 120], [], [], [2, 3, 11, 115], [3, 11, 115, 123, 124, 125, 126, 127], [], [], [], [], [], [3, 11, 129, 130, 131, 132, 133], [], [], [], [], [], [135, 136, 137, 138, 0, 0, 0, 0, 0, 0, 0, 0, 0, 0, 0, 139, 0, 0, 0, 0, 140, 141, 0, 0, 0, 142, 143, 144, 145, 146, 147, 148], [], [], [], [], [], [], [], [], [], [], [], [], [], []]
/-- a Text's cells: itself, lawFrom, lawTill, code, kinds, firsts, seconds -/
def dyn : List (Nat × Nat) → List (Nat × Nat)
  | [] => []
  | (n, c) :: r => (19, 7) :: (0, 3) :: (0, 3) :: (0, n) :: (0, c) :: (0, c) :: (0, c) :: dyn r
def Rd (p i : Nat) : Nat := match (p - 149) % 7 with
  | 0 => (match i with | 0 => p + 3 | 1 => p + 1 | 2 => p + 2 | 4 => p + 4 | 5 => p + 5 | 6 => p + 6 | _ => 0)
  | _ => 0
def rho (sh : Nat → Nat → Nat) (p i : Nat) : Nat := if p = 51 then sh 51 i else if p = 101 then sh 101 i else if p < 149 then (R0t.getD p []).getD i 0 else Rd p i
abbrev St (dd : List (Nat × Nat)) (sh : Nat → Nat → Nat) (g : Nat → Nat → Int) : HS := (T0 ++ dyn dd, rho sh, g)
theorem nz {n : Nat} : n + 1 ≠ 0 := Nat.succ_ne_zero n
theorem nle {a b : Nat} (h : Nat.ble a b = true) : a ≤ b := Nat.le_of_ble_eq_true h
theorem i0 {x : Int} (h : decide (0 ≤ x) = true) : 0 ≤ x := of_decide_eq_true h
theorem i32k (x : Int) (h : decide (i32 x) = true) : i32 x := of_decide_eq_true h
theorem i64k (x : Int) (h : decide (i64 x) = true) : i64 x := of_decide_eq_true h
theorem go2 {d M k n pc : Nat} {ls : LV} {st : List V} {H : HS} {Q : V → HS → Prop} {i : Ins} {r : List Ins} (hok : okL M (i :: r) = true) (hpc : i.1 = pc)
    (h : ∀ sc, wp sc (fun pc k n ls st H => Reach d M k n pc ls st H Q) Q (CallM d) (i :: r) k n ls st H) : Reach d M k n pc ls st H Q := by
  subst hpc
  exact go hok h
theorem wk2 {d M k n pc : Nat} {ls ls' : LV} {st : List V} {H : HS} {Q : V → HS → Prop} (h : Reach d M k n pc ls' st H Q) (hw : Wk ls' ls) : Reach d M k n pc ls st H Q := wk hw h
def len (dd : List (Nat × Nat)) (p : Nat) : Nat := ((T0 ++ dyn dd).getD p (99, 0)).2
def arI (dd : List (Nat × Nat)) (p : Nat) : Prop := p ≠ 0 ∧ (T0 ++ dyn dd)[p]? = some (0, len dd p)
section K
variable (d M : Nat) (args : List V) (dd : List (Nat × Nat)) (sh : Nat → Nat → Nat) (g : Nat → Nat → Int)
def qI (K : Int → (Nat → Nat → Int) → Prop) : V → HS → Prop := fun r H' => ∃ a g', r = vI a ∧ H' = St dd sh g' ∧ K a g'
def qL (K : Int → (Nat → Nat → Int) → Prop) : V → HS → Prop := fun r H' => ∃ a g', r = vL a ∧ H' = St dd sh g' ∧ K a g'
def qR (K : Nat → (Nat → Nat → Int) → Prop) : V → HS → Prop := fun r H' => ∃ a g', r = vR a ∧ H' = St dd sh g' ∧ K a g'
def qV (K : (Nat → Nat → Int) → Prop) : V → HS → Prop := fun _ H' => ∃ g', H' = St dd sh g' ∧ K g'
def qZ (K : Nat → (Nat → Nat → Int) → Prop) : V → HS → Prop := fun r H' => ∃ a g', r = vZ a ∧ H' = St dd sh g' ∧ K a g'
def cI (K : Int → (Nat → Nat → Int) → Prop) : Prop := CallM d M args (St dd sh g) (qI dd sh K)
def cL (K : Int → (Nat → Nat → Int) → Prop) : Prop := CallM d M args (St dd sh g) (qL dd sh K)
def cR (K : Nat → (Nat → Nat → Int) → Prop) : Prop := CallM d M args (St dd sh g) (qR dd sh K)
def cV (K : (Nat → Nat → Int) → Prop) : Prop := CallM d M args (St dd sh g) (qV dd sh K)
def cZ (K : Nat → (Nat → Nat → Int) → Prop) : Prop := CallM d M args (St dd sh g) (qZ dd sh K)
end K
def rI (d M pc : Nat) (ls : LV) (st : List V) (dd : List (Nat × Nat)) (sh : Nat → Nat → Nat) (g : Nat → Nat → Int) (K : Int → (Nat → Nat → Int) → Prop) : Prop := Reach d M 0 0 pc ls st (St dd sh g) (qI dd sh K)
def rL (d M pc : Nat) (ls : LV) (st : List V) (dd : List (Nat × Nat)) (sh : Nat → Nat → Nat) (g : Nat → Nat → Int) (K : Int → (Nat → Nat → Int) → Prop) : Prop := Reach d M 0 0 pc ls st (St dd sh g) (qL dd sh K)
def rR (d M pc : Nat) (ls : LV) (st : List V) (dd : List (Nat × Nat)) (sh : Nat → Nat → Nat) (g : Nat → Nat → Int) (K : Nat → (Nat → Nat → Int) → Prop) : Prop := Reach d M 0 0 pc ls st (St dd sh g) (qR dd sh K)
def rV (d M pc : Nat) (ls : LV) (st : List V) (dd : List (Nat × Nat)) (sh : Nat → Nat → Nat) (g : Nat → Nat → Int) (K : (Nat → Nat → Int) → Prop) : Prop := Reach d M 0 0 pc ls st (St dd sh g) (qV dd sh K)
def rZ (d M pc : Nat) (ls : LV) (st : List V) (dd : List (Nat × Nat)) (sh : Nat → Nat → Nat) (g : Nat → Nat → Int) (K : Nat → (Nat → Nat → Int) → Prop) : Prop := Reach d M 0 0 pc ls st (St dd sh g) (qZ dd sh K)
section K2
variable {d M : Nat} {args : List V} {dd : List (Nat × Nat)} {sh : Nat → Nat → Nat} {g : Nat → Nat → Int} {Q : V → HS → Prop}
theorem cI_mono {K : Int → (Nat → Nat → Int) → Prop} (h : cI d M args dd sh g K) (f : ∀ a g', K a g' → Q (vI a) (St dd sh g')) : CallM d M args (St dd sh g) Q := CallM.mono h fun r H' ⟨a, g', h1, h2, h3⟩ => by subst h1; subst h2; exact f a g' h3
theorem cL_mono {K : Int → (Nat → Nat → Int) → Prop} (h : cL d M args dd sh g K) (f : ∀ a g', K a g' → Q (vL a) (St dd sh g')) : CallM d M args (St dd sh g) Q := CallM.mono h fun r H' ⟨a, g', h1, h2, h3⟩ => by subst h1; subst h2; exact f a g' h3
theorem cR_mono {K : Nat → (Nat → Nat → Int) → Prop} (h : cR d M args dd sh g K) (f : ∀ a g', K a g' → Q (vR a) (St dd sh g')) : CallM d M args (St dd sh g) Q := CallM.mono h fun r H' ⟨a, g', h1, h2, h3⟩ => by subst h1; subst h2; exact f a g' h3
theorem cZ_mono {K : Nat → (Nat → Nat → Int) → Prop} (h : cZ d M args dd sh g K) (f : ∀ a g', K a g' → Q (vZ a) (St dd sh g')) : CallM d M args (St dd sh g) Q := CallM.mono h fun r H' ⟨a, g', h1, h2, h3⟩ => by subst h1; subst h2; exact f a g' h3
theorem cV_mono {K : (Nat → Nat → Int) → Prop} (h : cV d M args dd sh g K) (f : ∀ r g', K g' → Q r (St dd sh g')) : CallM d M args (St dd sh g) Q := CallM.mono h fun r H' ⟨g', h2, h3⟩ => by subst h2; exact f r g' h3
theorem mkI {ls : LV} {K : Int → (Nat → Nat → Int) → Prop} (hM : Nat.ble (M + 1) 364 = true) (hz : Pmc M = 0) (hz2 : Pms M = 0) (hl : Nat.ble (argL args).length (PnL M) = true) (hp : padL (PnL M) (argL args) = ls) (h : rI d M 0 ls [] dd sh g K) : cI (d + 1) M args dd sh g K := by
  subst hp
  refine call (nle hM) (nle hl) ?_
  rw [hz, hz2]
  exact h
theorem mkL {ls : LV} {K : Int → (Nat → Nat → Int) → Prop} (hM : Nat.ble (M + 1) 364 = true) (hz : Pmc M = 0) (hz2 : Pms M = 0) (hl : Nat.ble (argL args).length (PnL M) = true) (hp : padL (PnL M) (argL args) = ls) (h : rL d M 0 ls [] dd sh g K) : cL (d + 1) M args dd sh g K := by
  subst hp
  refine call (nle hM) (nle hl) ?_
  rw [hz, hz2]
  exact h
theorem mkR {ls : LV} {K : Nat → (Nat → Nat → Int) → Prop} (hM : Nat.ble (M + 1) 364 = true) (hz : Pmc M = 0) (hz2 : Pms M = 0) (hl : Nat.ble (argL args).length (PnL M) = true) (hp : padL (PnL M) (argL args) = ls) (h : rR d M 0 ls [] dd sh g K) : cR (d + 1) M args dd sh g K := by
  subst hp
  refine call (nle hM) (nle hl) ?_
  rw [hz, hz2]
  exact h
theorem mkV {ls : LV} {K : (Nat → Nat → Int) → Prop} (hM : Nat.ble (M + 1) 364 = true) (hz : Pmc M = 0) (hz2 : Pms M = 0) (hl : Nat.ble (argL args).length (PnL M) = true) (hp : padL (PnL M) (argL args) = ls) (h : rV d M 0 ls [] dd sh g K) : cV (d + 1) M args dd sh g K := by
  subst hp
  refine call (nle hM) (nle hl) ?_
  rw [hz, hz2]
  exact h
theorem mkZ {ls : LV} {K : Nat → (Nat → Nat → Int) → Prop} (hM : Nat.ble (M + 1) 364 = true) (hz : Pmc M = 0) (hz2 : Pms M = 0) (hl : Nat.ble (argL args).length (PnL M) = true) (hp : padL (PnL M) (argL args) = ls) (h : rZ d M 0 ls [] dd sh g K) : cZ (d + 1) M args dd sh g K := by
  subst hp
  refine call (nle hM) (nle hl) ?_
  rw [hz, hz2]
  exact h
end K2
theorem T_1 (dd : List (Nat × Nat)) : (T0 ++ dyn dd)[1]? = some (21, 9) := rfl
theorem T_2 (dd : List (Nat × Nat)) : (T0 ++ dyn dd)[2]? = some (11, 8) := rfl
theorem T_3 (dd : List (Nat × Nat)) : (T0 ++ dyn dd)[3]? = some (17, 18) := rfl
theorem T_4 (dd : List (Nat × Nat)) : (T0 ++ dyn dd)[4]? = some (0, 6) := rfl
theorem T_5 (dd : List (Nat × Nat)) : (T0 ++ dyn dd)[5]? = some (0, 6) := rfl
theorem T_6 (dd : List (Nat × Nat)) : (T0 ++ dyn dd)[6]? = some (0, 6) := rfl
theorem T_7 (dd : List (Nat × Nat)) : (T0 ++ dyn dd)[7]? = some (0, 6) := rfl
theorem T_8 (dd : List (Nat × Nat)) : (T0 ++ dyn dd)[8]? = some (0, 7) := rfl
theorem T_9 (dd : List (Nat × Nat)) : (T0 ++ dyn dd)[9]? = some (0, 7) := rfl
theorem T_10 (dd : List (Nat × Nat)) : (T0 ++ dyn dd)[10]? = some (0, 40) := rfl
theorem T_11 (dd : List (Nat × Nat)) : (T0 ++ dyn dd)[11]? = some (13, 4) := rfl
theorem T_12 (dd : List (Nat × Nat)) : (T0 ++ dyn dd)[12]? = some (0, 6) := rfl
theorem T_13 (dd : List (Nat × Nat)) : (T0 ++ dyn dd)[13]? = some (0, 9) := rfl
theorem T_14 (dd : List (Nat × Nat)) : (T0 ++ dyn dd)[14]? = some (0, 4) := rfl
theorem T_15 (dd : List (Nat × Nat)) : (T0 ++ dyn dd)[15]? = some (2, 4) := rfl
theorem T_16 (dd : List (Nat × Nat)) : (T0 ++ dyn dd)[16]? = some (0, 8) := rfl
theorem T_17 (dd : List (Nat × Nat)) : (T0 ++ dyn dd)[17]? = some (0, 8) := rfl
theorem T_18 (dd : List (Nat × Nat)) : (T0 ++ dyn dd)[18]? = some (0, 8) := rfl
theorem T_19 (dd : List (Nat × Nat)) : (T0 ++ dyn dd)[19]? = some (0, 8) := rfl
theorem T_20 (dd : List (Nat × Nat)) : (T0 ++ dyn dd)[20]? = some (2, 30) := rfl
theorem T_21 (dd : List (Nat × Nat)) : (T0 ++ dyn dd)[21]? = some (0, 62) := rfl
theorem T_22 (dd : List (Nat × Nat)) : (T0 ++ dyn dd)[22]? = some (0, 62) := rfl
theorem T_23 (dd : List (Nat × Nat)) : (T0 ++ dyn dd)[23]? = some (0, 62) := rfl
theorem T_24 (dd : List (Nat × Nat)) : (T0 ++ dyn dd)[24]? = some (0, 62) := rfl
theorem T_25 (dd : List (Nat × Nat)) : (T0 ++ dyn dd)[25]? = some (0, 62) := rfl
theorem T_26 (dd : List (Nat × Nat)) : (T0 ++ dyn dd)[26]? = some (0, 62) := rfl
theorem T_27 (dd : List (Nat × Nat)) : (T0 ++ dyn dd)[27]? = some (0, 62) := rfl
theorem T_28 (dd : List (Nat × Nat)) : (T0 ++ dyn dd)[28]? = some (0, 62) := rfl
theorem T_29 (dd : List (Nat × Nat)) : (T0 ++ dyn dd)[29]? = some (0, 62) := rfl
theorem T_30 (dd : List (Nat × Nat)) : (T0 ++ dyn dd)[30]? = some (0, 62) := rfl
theorem T_31 (dd : List (Nat × Nat)) : (T0 ++ dyn dd)[31]? = some (0, 62) := rfl
theorem T_32 (dd : List (Nat × Nat)) : (T0 ++ dyn dd)[32]? = some (0, 62) := rfl
theorem T_33 (dd : List (Nat × Nat)) : (T0 ++ dyn dd)[33]? = some (0, 62) := rfl
theorem T_34 (dd : List (Nat × Nat)) : (T0 ++ dyn dd)[34]? = some (0, 62) := rfl
theorem T_35 (dd : List (Nat × Nat)) : (T0 ++ dyn dd)[35]? = some (0, 62) := rfl
theorem T_36 (dd : List (Nat × Nat)) : (T0 ++ dyn dd)[36]? = some (0, 62) := rfl
theorem T_37 (dd : List (Nat × Nat)) : (T0 ++ dyn dd)[37]? = some (0, 62) := rfl
theorem T_38 (dd : List (Nat × Nat)) : (T0 ++ dyn dd)[38]? = some (0, 62) := rfl
theorem T_39 (dd : List (Nat × Nat)) : (T0 ++ dyn dd)[39]? = some (0, 62) := rfl
theorem T_40 (dd : List (Nat × Nat)) : (T0 ++ dyn dd)[40]? = some (0, 62) := rfl
theorem T_41 (dd : List (Nat × Nat)) : (T0 ++ dyn dd)[41]? = some (0, 62) := rfl
theorem T_42 (dd : List (Nat × Nat)) : (T0 ++ dyn dd)[42]? = some (0, 62) := rfl
theorem T_43 (dd : List (Nat × Nat)) : (T0 ++ dyn dd)[43]? = some (0, 62) := rfl
theorem T_44 (dd : List (Nat × Nat)) : (T0 ++ dyn dd)[44]? = some (0, 62) := rfl
theorem T_45 (dd : List (Nat × Nat)) : (T0 ++ dyn dd)[45]? = some (0, 62) := rfl
theorem T_46 (dd : List (Nat × Nat)) : (T0 ++ dyn dd)[46]? = some (0, 62) := rfl
theorem T_47 (dd : List (Nat × Nat)) : (T0 ++ dyn dd)[47]? = some (0, 62) := rfl
theorem T_48 (dd : List (Nat × Nat)) : (T0 ++ dyn dd)[48]? = some (0, 62) := rfl
theorem T_49 (dd : List (Nat × Nat)) : (T0 ++ dyn dd)[49]? = some (0, 62) := rfl
theorem T_50 (dd : List (Nat × Nat)) : (T0 ++ dyn dd)[50]? = some (0, 62) := rfl
theorem T_51 (dd : List (Nat × Nat)) : (T0 ++ dyn dd)[51]? = some (3, 4) := rfl
theorem T_52 (dd : List (Nat × Nat)) : (T0 ++ dyn dd)[52]? = some (11, 8) := rfl
theorem T_53 (dd : List (Nat × Nat)) : (T0 ++ dyn dd)[53]? = some (17, 18) := rfl
theorem T_54 (dd : List (Nat × Nat)) : (T0 ++ dyn dd)[54]? = some (0, 6) := rfl
theorem T_55 (dd : List (Nat × Nat)) : (T0 ++ dyn dd)[55]? = some (0, 6) := rfl
theorem T_56 (dd : List (Nat × Nat)) : (T0 ++ dyn dd)[56]? = some (0, 6) := rfl
theorem T_57 (dd : List (Nat × Nat)) : (T0 ++ dyn dd)[57]? = some (0, 6) := rfl
theorem T_58 (dd : List (Nat × Nat)) : (T0 ++ dyn dd)[58]? = some (0, 7) := rfl
theorem T_59 (dd : List (Nat × Nat)) : (T0 ++ dyn dd)[59]? = some (0, 7) := rfl
theorem T_60 (dd : List (Nat × Nat)) : (T0 ++ dyn dd)[60]? = some (0, 40) := rfl
theorem T_61 (dd : List (Nat × Nat)) : (T0 ++ dyn dd)[61]? = some (13, 4) := rfl
theorem T_62 (dd : List (Nat × Nat)) : (T0 ++ dyn dd)[62]? = some (0, 6) := rfl
theorem T_63 (dd : List (Nat × Nat)) : (T0 ++ dyn dd)[63]? = some (0, 9) := rfl
theorem T_64 (dd : List (Nat × Nat)) : (T0 ++ dyn dd)[64]? = some (0, 4) := rfl
theorem T_65 (dd : List (Nat × Nat)) : (T0 ++ dyn dd)[65]? = some (2, 4) := rfl
theorem T_66 (dd : List (Nat × Nat)) : (T0 ++ dyn dd)[66]? = some (0, 8) := rfl
theorem T_67 (dd : List (Nat × Nat)) : (T0 ++ dyn dd)[67]? = some (0, 8) := rfl
theorem T_68 (dd : List (Nat × Nat)) : (T0 ++ dyn dd)[68]? = some (0, 8) := rfl
theorem T_69 (dd : List (Nat × Nat)) : (T0 ++ dyn dd)[69]? = some (0, 8) := rfl
theorem T_70 (dd : List (Nat × Nat)) : (T0 ++ dyn dd)[70]? = some (2, 30) := rfl
theorem T_71 (dd : List (Nat × Nat)) : (T0 ++ dyn dd)[71]? = some (0, 62) := rfl
theorem T_72 (dd : List (Nat × Nat)) : (T0 ++ dyn dd)[72]? = some (0, 62) := rfl
theorem T_73 (dd : List (Nat × Nat)) : (T0 ++ dyn dd)[73]? = some (0, 62) := rfl
theorem T_74 (dd : List (Nat × Nat)) : (T0 ++ dyn dd)[74]? = some (0, 62) := rfl
theorem T_75 (dd : List (Nat × Nat)) : (T0 ++ dyn dd)[75]? = some (0, 62) := rfl
theorem T_76 (dd : List (Nat × Nat)) : (T0 ++ dyn dd)[76]? = some (0, 62) := rfl
theorem T_77 (dd : List (Nat × Nat)) : (T0 ++ dyn dd)[77]? = some (0, 62) := rfl
theorem T_78 (dd : List (Nat × Nat)) : (T0 ++ dyn dd)[78]? = some (0, 62) := rfl
theorem T_79 (dd : List (Nat × Nat)) : (T0 ++ dyn dd)[79]? = some (0, 62) := rfl
theorem T_80 (dd : List (Nat × Nat)) : (T0 ++ dyn dd)[80]? = some (0, 62) := rfl
theorem T_81 (dd : List (Nat × Nat)) : (T0 ++ dyn dd)[81]? = some (0, 62) := rfl
theorem T_82 (dd : List (Nat × Nat)) : (T0 ++ dyn dd)[82]? = some (0, 62) := rfl
theorem T_83 (dd : List (Nat × Nat)) : (T0 ++ dyn dd)[83]? = some (0, 62) := rfl
theorem T_84 (dd : List (Nat × Nat)) : (T0 ++ dyn dd)[84]? = some (0, 62) := rfl
theorem T_85 (dd : List (Nat × Nat)) : (T0 ++ dyn dd)[85]? = some (0, 62) := rfl
theorem T_86 (dd : List (Nat × Nat)) : (T0 ++ dyn dd)[86]? = some (0, 62) := rfl
theorem T_87 (dd : List (Nat × Nat)) : (T0 ++ dyn dd)[87]? = some (0, 62) := rfl
theorem T_88 (dd : List (Nat × Nat)) : (T0 ++ dyn dd)[88]? = some (0, 62) := rfl
theorem T_89 (dd : List (Nat × Nat)) : (T0 ++ dyn dd)[89]? = some (0, 62) := rfl
theorem T_90 (dd : List (Nat × Nat)) : (T0 ++ dyn dd)[90]? = some (0, 62) := rfl
theorem T_91 (dd : List (Nat × Nat)) : (T0 ++ dyn dd)[91]? = some (0, 62) := rfl
theorem T_92 (dd : List (Nat × Nat)) : (T0 ++ dyn dd)[92]? = some (0, 62) := rfl
theorem T_93 (dd : List (Nat × Nat)) : (T0 ++ dyn dd)[93]? = some (0, 62) := rfl
theorem T_94 (dd : List (Nat × Nat)) : (T0 ++ dyn dd)[94]? = some (0, 62) := rfl
theorem T_95 (dd : List (Nat × Nat)) : (T0 ++ dyn dd)[95]? = some (0, 62) := rfl
theorem T_96 (dd : List (Nat × Nat)) : (T0 ++ dyn dd)[96]? = some (0, 62) := rfl
theorem T_97 (dd : List (Nat × Nat)) : (T0 ++ dyn dd)[97]? = some (0, 62) := rfl
theorem T_98 (dd : List (Nat × Nat)) : (T0 ++ dyn dd)[98]? = some (0, 62) := rfl
theorem T_99 (dd : List (Nat × Nat)) : (T0 ++ dyn dd)[99]? = some (0, 62) := rfl
theorem T_100 (dd : List (Nat × Nat)) : (T0 ++ dyn dd)[100]? = some (0, 62) := rfl
theorem T_101 (dd : List (Nat × Nat)) : (T0 ++ dyn dd)[101]? = some (3, 4) := rfl
theorem T_102 (dd : List (Nat × Nat)) : (T0 ++ dyn dd)[102]? = some (18, 7) := rfl
theorem T_103 (dd : List (Nat × Nat)) : (T0 ++ dyn dd)[103]? = some (0, 300) := rfl
theorem T_104 (dd : List (Nat × Nat)) : (T0 ++ dyn dd)[104]? = some (0, 301) := rfl
theorem T_105 (dd : List (Nat × Nat)) : (T0 ++ dyn dd)[105]? = some (0, 301) := rfl
theorem T_106 (dd : List (Nat × Nat)) : (T0 ++ dyn dd)[106]? = some (0, 301) := rfl
theorem T_107 (dd : List (Nat × Nat)) : (T0 ++ dyn dd)[107]? = some (0, 301) := rfl
theorem T_108 (dd : List (Nat × Nat)) : (T0 ++ dyn dd)[108]? = some (16, 16) := rfl
theorem T_109 (dd : List (Nat × Nat)) : (T0 ++ dyn dd)[109]? = some (0, 24) := rfl
theorem T_110 (dd : List (Nat × Nat)) : (T0 ++ dyn dd)[110]? = some (0, 24) := rfl
theorem T_111 (dd : List (Nat × Nat)) : (T0 ++ dyn dd)[111]? = some (0, 24) := rfl
theorem T_112 (dd : List (Nat × Nat)) : (T0 ++ dyn dd)[112]? = some (0, 300) := rfl
theorem T_113 (dd : List (Nat × Nat)) : (T0 ++ dyn dd)[113]? = some (0, 3) := rfl
theorem T_114 (dd : List (Nat × Nat)) : (T0 ++ dyn dd)[114]? = some (0, 3) := rfl
theorem T_115 (dd : List (Nat × Nat)) : (T0 ++ dyn dd)[115]? = some (12, 3) := rfl
theorem T_116 (dd : List (Nat × Nat)) : (T0 ++ dyn dd)[116]? = some (0, 9) := rfl
theorem T_117 (dd : List (Nat × Nat)) : (T0 ++ dyn dd)[117]? = some (0, 40) := rfl
theorem T_118 (dd : List (Nat × Nat)) : (T0 ++ dyn dd)[118]? = some (15, 6) := rfl
theorem T_119 (dd : List (Nat × Nat)) : (T0 ++ dyn dd)[119]? = some (0, 6) := rfl
theorem T_120 (dd : List (Nat × Nat)) : (T0 ++ dyn dd)[120]? = some (0, 62) := rfl
theorem T_121 (dd : List (Nat × Nat)) : (T0 ++ dyn dd)[121]? = some (10, 4) := rfl
theorem T_122 (dd : List (Nat × Nat)) : (T0 ++ dyn dd)[122]? = some (14, 8) := rfl
theorem T_123 (dd : List (Nat × Nat)) : (T0 ++ dyn dd)[123]? = some (0, 7) := rfl
theorem T_124 (dd : List (Nat × Nat)) : (T0 ++ dyn dd)[124]? = some (0, 7) := rfl
theorem T_125 (dd : List (Nat × Nat)) : (T0 ++ dyn dd)[125]? = some (0, 7) := rfl
theorem T_126 (dd : List (Nat × Nat)) : (T0 ++ dyn dd)[126]? = some (0, 7) := rfl
theorem T_127 (dd : List (Nat × Nat)) : (T0 ++ dyn dd)[127]? = some (0, 128) := rfl
theorem T_128 (dd : List (Nat × Nat)) : (T0 ++ dyn dd)[128]? = some (20, 7) := rfl
theorem T_129 (dd : List (Nat × Nat)) : (T0 ++ dyn dd)[129]? = some (0, 6) := rfl
theorem T_130 (dd : List (Nat × Nat)) : (T0 ++ dyn dd)[130]? = some (0, 6) := rfl
theorem T_131 (dd : List (Nat × Nat)) : (T0 ++ dyn dd)[131]? = some (0, 6) := rfl
theorem T_132 (dd : List (Nat × Nat)) : (T0 ++ dyn dd)[132]? = some (0, 6) := rfl
theorem T_133 (dd : List (Nat × Nat)) : (T0 ++ dyn dd)[133]? = some (0, 6) := rfl
theorem T_134 (dd : List (Nat × Nat)) : (T0 ++ dyn dd)[134]? = some (22, 32) := rfl
theorem T_135 (dd : List (Nat × Nat)) : (T0 ++ dyn dd)[135]? = some (0, 2564) := rfl
theorem T_136 (dd : List (Nat × Nat)) : (T0 ++ dyn dd)[136]? = some (0, 2564) := rfl
theorem T_137 (dd : List (Nat × Nat)) : (T0 ++ dyn dd)[137]? = some (0, 2724) := rfl
theorem T_138 (dd : List (Nat × Nat)) : (T0 ++ dyn dd)[138]? = some (0, 300) := rfl
theorem T_139 (dd : List (Nat × Nat)) : (T0 ++ dyn dd)[139]? = some (0, 160) := rfl
theorem T_140 (dd : List (Nat × Nat)) : (T0 ++ dyn dd)[140]? = some (0, 9) := rfl
theorem T_141 (dd : List (Nat × Nat)) : (T0 ++ dyn dd)[141]? = some (1, 330) := rfl
theorem T_142 (dd : List (Nat × Nat)) : (T0 ++ dyn dd)[142]? = some (0, 86) := rfl
theorem T_143 (dd : List (Nat × Nat)) : (T0 ++ dyn dd)[143]? = some (0, 8) := rfl
theorem T_144 (dd : List (Nat × Nat)) : (T0 ++ dyn dd)[144]? = some (0, 7) := rfl
theorem T_145 (dd : List (Nat × Nat)) : (T0 ++ dyn dd)[145]? = some (0, 7) := rfl
theorem T_146 (dd : List (Nat × Nat)) : (T0 ++ dyn dd)[146]? = some (0, 128) := rfl
theorem T_147 (dd : List (Nat × Nat)) : (T0 ++ dyn dd)[147]? = some (0, 6) := rfl
theorem T_148 (dd : List (Nat × Nat)) : (T0 ++ dyn dd)[148]? = some (0, 6) := rfl
