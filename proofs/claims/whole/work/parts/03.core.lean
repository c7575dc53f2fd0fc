/-- the words that stay as the machine warms up -/
def zk (w : Cond) : Bool := match w with
  | .methodLinkNest _ _ _ _ => true
  | .arrayOver _ => true
  | .stringRef _ _ _ => true
  | w => goodWord w
def ztbl : List Cond := lw_tbl.filter zk
theorem zin {w : Cond} (h : w ∈ lw_tbl) (hk : zk w = true) : w ∈ ztbl := List.mem_filter.mpr ⟨h, hk⟩
-- values: int, long, a place (0 null), a pseudo reference (0 the script, 2k+1 text k, 2k+2 its bytes, 100 a formatter)
abbrev V : Type := Int ⊕ Int ⊕ Nat ⊕ Nat
abbrev vI (x : Int) : V := .inl x
abbrev vL (x : Int) : V := .inr (.inl x)
abbrev vR (p : Nat) : V := .inr (.inr (.inl p))
abbrev vZ (z : Nat) : V := .inr (.inr (.inr z))
/-- the heap: kinds and lengths by place (0 int[], 1 long[], 2 int[][], 3 Text[], 10 + class), references, numbers -/
abbrev HS : Type := List (Nat × Nat) × (Nat → Nat → Nat) × (Nat → Nat → Int)
abbrev i32 (x : Int) : Prop := -2147483648 ≤ x ∧ x ≤ 2147483647
abbrev i64 (x : Int) : Prop := -9223372036854775808 ≤ x ∧ x ≤ 9223372036854775807
def up {α : Type} (f : Nat → Nat → α) (p i : Nat) (x : α) : Nat → Nat → α := fun q j => if q = p then (if j = i then x else f q j) else f q j
def rowOf {α : Type} (f : Nat → Nat → α) (p : Nat) (g : Nat → α) : Nat → Nat → α := fun q j => if q = p then g j else f q j
def iand (x y : Int) : Int := (Int32.ofInt x &&& Int32.ofInt y).toInt
def ior (x y : Int) : Int := (Int32.ofInt x ||| Int32.ofInt y).toInt
def ixor (x y : Int) : Int := (Int32.ofInt x ^^^ Int32.ofInt y).toInt
def lor (x y : Int) : Int := (Int64.ofInt x ||| Int64.ofInt y).toInt
def lcmpv (x y : Int) : Int := if x < y then -1 else if x = y then 0 else 1
/-- the kinds of a class's fields: 0 int, 1 long, 2 reference, 3 boolean -/
def fkind (ty : FieldType) : Nat := match ty with
  | .int => 0
  | .long => 1
  | .boolean => 3
  | _ => 2
def tyXs (c : Nat) : Nat → FieldType := match c with | 0 => tyX0 | 1 => tyX1 | 2 => tyX2 | 3 => tyX3 | 4 => tyX4 | 5 => tyX5 | 6 => tyX6 | 7 => tyX7 | 8 => tyX8 | 9 => tyX9 | 10 => tyX10 | 11 => tyX11 | _ => tyX12
def fty (c k : Nat) : Nat := fkind (tyXs c k)
def nfs (c : Nat) : Nat := [4, 8, 3, 4, 8, 6, 16, 18, 7, 7, 7, 9, 32].getD c 0
def getv (H : HS) (c p k : Nat) : V := match fty c k with
  | 0 => vI (H.2.2 p k)
  | 3 => vI (H.2.2 p k)
  | 1 => vL (H.2.2 p k)
  | _ => vR (H.2.1 p k)
/-- an instruction: its place, itself, its length, two numbers of its own (what its pool entry is) -/
abbrev Ins : Type := Nat × Instr × Nat × Int × Int
def cnd (c : ClassFile.Cond) (x y : Int) : Prop := match c with
  | .eq => x = y
  | .ne => ¬ x = y
  | .lt => x < y
  | .ge => y ≤ x
  | .gt => y < x
  | .le => x ≤ y
abbrev LV : Type := List (Option V)
/-- a wide one ahead of i is no more -/
def kill (ls : LV) (i : Nat) : LV := match i with
  | 0 => ls
  | j + 1 => match ls[j]? with
    | some (some (.inr (.inl _))) => ls.set j none
    | _ => ls
def lput (ls : LV) (i : Nat) (v : V) : LV := (kill ls i).set i (some v)
/-- the width of values -/
def csum : List V → Nat
  | [] => 0
  | .inr (.inl _) :: r => csum r + 2
  | _ :: r => csum r + 1
/-- a wide one's second slot is nothing's -/
def lput2 (ls : LV) (i : Nat) (v : V) : LV := ((kill ls i).set i (some v)).set (i + 1) none
def jmp (pc : Nat) (off : Int) : Nat := ((pc : Int) + off).toNat
def swT (pc : Nat) (x : Int) (J1 : Nat → Prop) : List Int → Int → Prop
  | [], _ => True
  | o :: r, k => (x = k → J1 (jmp pc o)) ∧ swT pc x J1 r (k + 1)
def swL (pc : Nat) (x : Int) (J1 : Nat → Prop) (dflt : Int) : List (Int × Int) → Prop
  | [] => J1 (jmp pc dflt)
  | (k, o) :: r => (x = k → J1 (jmp pc o)) ∧ (¬ x = k → swL pc x J1 dflt r)
def sw2 (v : V) : Bool := match v with
  | .inr (.inl _) => true
  | _ => false
def pushv (void : Bool) (v : V) (st : List V) : List V := if void then st else v :: st
/-- bytes of the String constants -/
def sbytes (k : Nat) : List Int := [[103, 117, 105, 108, 116], [103, 114, 105, 101, 102], [112, 97, 121, 115], [115, 117, 115, 112, 101, 99, 116], [109, 117, 114, 100, 101, 114, 101, 114], [115, 99, 101, 110, 101], [99, 117, 116], [101, 110, 99, 111, 114, 101], [97, 119, 97, 121], [115, 101, 97, 116], [110, 105, 103, 104, 116], [110, 101, 114, 118, 101, 115], [104, 97, 98, 105, 116], [114, 111, 119], [112, 108, 97, 99, 101], [104, 101, 97, 116], [108, 101, 110, 103, 116, 104], [110, 117, 109, 98, 101, 114], [105], [116, 111, 116, 97, 108], [111, 102], [111, 110], [102, 111, 114], []].getD k []
section STP
variable (sc : List Int) (J : Nat → Nat → Nat → LV → List V → HS → Prop) (Rt : V → HS → Prop) (Cl : Nat → List V → HS → (V → HS → Prop) → Prop)
/-- one instruction: what must hold ahead of it, if kk is what must hold behind it -/
def stp (pc : Nat) (ins : Instr) (x y : Int) (kk : Nat → Nat → LV → List V → HS → Prop) (k n : Nat) (ls : LV) (st : List V) (H : HS) : Prop := match ins with
  | .nop => J pc k n ls st H
  | .iconst c => kk k n ls (vI c :: st) H
  | .bipush c => kk k n ls (vI c :: st) H
  | .sipush c => kk k n ls (vI c :: st) H
  | .lconst c => kk k n ls (vL ((c : Nat) : Int) :: st) H
  | .aconst_null => kk k n ls (vR 0 :: st) H
  | .ldc _ => match y with
    | 0 => kk k n ls (vI x :: st) H
    | _ => kk k n ls (vZ (2 * x.toNat + 1) :: st) H
  | .ldc_w _ => kk k n ls (vI x :: st) H
  | .ldc2_w _ => kk k n ls (vL x :: st) H
  | .iload i => match ls[i]? with
    | some (some (.inl a)) => kk k n ls (vI a :: st) H
    | _ => False
  | .iload_n i => match ls[(i : Nat)]? with
    | some (some (.inl a)) => kk k n ls (vI a :: st) H
    | _ => False
  | .lload i => match ls[i]? with
    | some (some (.inr (.inl a))) => kk k n ls (vL a :: st) H
    | _ => False
  | .lload_n i => match ls[(i : Nat)]? with
    | some (some (.inr (.inl a))) => kk k n ls (vL a :: st) H
    | _ => False
  | .aload i => match ls[i]? with
    | some (some (.inr (.inr a))) => kk k n ls (.inr (.inr a) :: st) H
    | _ => False
  | .aload_n i => match ls[(i : Nat)]? with
    | some (some (.inr (.inr a))) => kk k n ls (.inr (.inr a) :: st) H
    | _ => False
  | .istore i => match st with
    | .inl a :: s => i < ls.length ∧ kk k n (lput ls i (vI a)) s H
    | _ => False
  | .istore_n i => match st with
    | .inl a :: s => (i : Nat) < ls.length ∧ kk k n (lput ls (i : Nat) (vI a)) s H
    | _ => False
  | .lstore i => match st with
    | .inr (.inl a) :: s => i + 1 < ls.length ∧ kk k n (lput2 ls i (vL a)) s H
    | _ => False
  | .lstore_n i => match st with
    | .inr (.inl a) :: s => (i : Nat) + 1 < ls.length ∧ kk k n (lput2 ls (i : Nat) (vL a)) s H
    | _ => False
  | .astore i => match st with
    | .inr (.inr a) :: s => i < ls.length ∧ kk k n (lput ls i (.inr (.inr a))) s H
    | _ => False
  | .astore_n i => match st with
    | .inr (.inr a) :: s => (i : Nat) < ls.length ∧ kk k n (lput ls (i : Nat) (.inr (.inr a))) s H
    | _ => False
  | .iinc i c => match ls[i]? with
    | some (some (.inl a)) => kk k n (lput ls i (vI (a + c))) st H
    | _ => False
  | .iadd => match st with
    | .inl b :: .inl a :: s => kk k n ls (vI (a + b) :: s) H
    | _ => False
  | .isub => match st with
    | .inl b :: .inl a :: s => kk k n ls (vI (a - b) :: s) H
    | _ => False
  | .imul => match st with
    | .inl b :: .inl a :: s => kk k n ls (vI (a * b) :: s) H
    | _ => False
  | .idiv => match st with
    | .inl b :: .inl a :: s => (i32 a ∧ i32 b ∧ b ≠ 0) ∧ kk k n ls (vI (a.tdiv b) :: s) H
    | _ => False
  | .irem => match st with
    | .inl b :: .inl a :: s => (i32 a ∧ i32 b ∧ b ≠ 0) ∧ kk k n ls (vI (a.tmod b) :: s) H
    | _ => False
  | .ineg => match st with
    | .inl a :: s => kk k n ls (vI (-a) :: s) H
    | _ => False
  | .iand => match st with
    | .inl b :: .inl a :: s => kk k n ls (vI (iand a b) :: s) H
    | _ => False
  | .ior => match st with
    | .inl b :: .inl a :: s => kk k n ls (vI (ior a b) :: s) H
    | _ => False
  | .ixor => match st with
    | .inl b :: .inl a :: s => kk k n ls (vI (ixor a b) :: s) H
    | _ => False
  | .ishl => match st with
    | .inl b :: .inl a :: s => (0 ≤ b ∧ b ≤ 31) ∧ kk k n ls (vI (a * 2 ^ b.toNat) :: s) H
    | _ => False
  | .ishr => match st with
    | .inl b :: .inl a :: s => (i32 a ∧ 0 ≤ b ∧ b ≤ 31) ∧ kk k n ls (vI (a / 2 ^ b.toNat) :: s) H
    | _ => False
  | .ladd => match st with
    | .inr (.inl b) :: .inr (.inl a) :: s => kk k n ls (vL (a + b) :: s) H
    | _ => False
  | .lsub => match st with
    | .inr (.inl b) :: .inr (.inl a) :: s => kk k n ls (vL (a - b) :: s) H
    | _ => False
  | .lmul => match st with
    | .inr (.inl b) :: .inr (.inl a) :: s => kk k n ls (vL (a * b) :: s) H
    | _ => False
  | .ldiv => match st with
    | .inr (.inl b) :: .inr (.inl a) :: s => (i64 a ∧ i64 b ∧ b ≠ 0) ∧ kk k n ls (vL (a.tdiv b) :: s) H
    | _ => False
  | .lrem => match st with
    | .inr (.inl b) :: .inr (.inl a) :: s => (i64 a ∧ i64 b ∧ b ≠ 0) ∧ kk k n ls (vL (a.tmod b) :: s) H
    | _ => False
  | .lneg => match st with
    | .inr (.inl a) :: s => kk k n ls (vL (-a) :: s) H
    | _ => False
  | .lor => match st with
    | .inr (.inl b) :: .inr (.inl a) :: s => kk k n ls (vL (lor a b) :: s) H
    | _ => False
  | .lshl => match st with
    | .inl b :: .inr (.inl a) :: s => (0 ≤ b ∧ b ≤ 63) ∧ kk k n ls (vL (a * 2 ^ b.toNat) :: s) H
    | _ => False
  | .lshr => match st with
    | .inl b :: .inr (.inl a) :: s => (i64 a ∧ 0 ≤ b ∧ b ≤ 63) ∧ kk k n ls (vL (a / 2 ^ b.toNat) :: s) H
    | _ => False
  | .lcmp => match st with
    | .inr (.inl b) :: .inr (.inl a) :: s => (i64 a ∧ i64 b) ∧ kk k n ls (vI (lcmpv a b) :: s) H
    | _ => False
  | .i2l => match st with
    | .inl a :: s => i32 a ∧ kk k n ls (vL a :: s) H
    | _ => False
  | .l2i => match st with
    | .inr (.inl a) :: s => kk k n ls (vI a :: s) H
    | _ => False
  | .i2c => match st with
    | .inl a :: s => (0 ≤ a ∧ a < 65536) ∧ kk k n ls (vI a :: s) H
    | _ => False
  | .dup => match st with
    | .inr (.inl _) :: _ => False
    | v :: s => kk k n ls (v :: v :: s) H
    | _ => False
  | .dup2 => match st with
    | .inr (.inl a) :: s => kk k n ls (vL a :: vL a :: s) H
    | _ :: .inr (.inl _) :: _ => False
    | v :: w :: s => kk k n ls (v :: w :: v :: w :: s) H
    | _ => False
  | .pop => match st with
    | .inr (.inl _) :: _ => False
    | _ :: s => kk k n ls s H
    | _ => False
  | .goto off => J (jmp pc off) k n ls st H
  | .ifCond c off => match st with
    | .inl a :: s => i32 a ∧ (cnd c a 0 → J (jmp pc off) k n ls s H) ∧ (¬ cnd c a 0 → kk k n ls s H)
    | _ => False
  | .if_icmp c off => match st with
    | .inl b :: .inl a :: s => (i32 a ∧ i32 b) ∧ (cnd c a b → J (jmp pc off) k n ls s H) ∧ (¬ cnd c a b → kk k n ls s H)
    | _ => False
  | .ifnull off => match st with
    | .inr (.inr (.inl p)) :: s => (p = 0 → J (jmp pc off) k n ls s H) ∧ (¬ p = 0 → kk k n ls s H)
    | _ => False
  | .ifnonnull off => match st with
    | .inr (.inr (.inl p)) :: s => (¬ p = 0 → J (jmp pc off) k n ls s H) ∧ (p = 0 → kk k n ls s H)
    | _ => False
  | .tableswitch d lo hi offs => match st with
    | .inl a :: s => i32 a ∧ (a < lo ∨ hi < a → J (jmp pc d) k n ls s H) ∧ swT pc a (fun q => J q k n ls s H) offs.toList lo
    | _ => False
  | .lookupswitch d ps => match st with
    | .inl a :: s => i32 a ∧ swL pc a (fun q => J q k n ls s H) d ps.toList
    | _ => False
  | .ireturn => match st with
    | [.inl a] => match x with
      | 0 => Rt (vI a) H
      | 3 => (0 ≤ a ∧ a < 65536) ∧ Rt (vI a) H
      | _ => (a = 0 ∨ a = 1) ∧ Rt (vI a) H
    | _ => False
  | .lreturn => match st with
    | [.inr (.inl a)] => Rt (vL a) H
    | _ => False
  | .areturn => match st with
    | [.inr (.inr a)] => Rt (.inr (.inr a)) H
    | _ => False
  | .return_ => match st with
    | [] => Rt (vI 0) H
    | _ => False
  | .getfield _ => match st with
    | .inr (.inr (.inl p)) :: s => (p ≠ 0 ∧ 0 ≤ x ∧ H.1[p]? = some (10 + x.toNat, nfs x.toNat)) ∧ kk k n ls (getv H x.toNat p y.toNat :: s) H
    | .inr (.inr (.inr z)) :: s => match x with
      | -1 => (z % 2 = 1 ∧ z < 48) ∧ kk k n ls (vZ (z + 1) :: s) H
      | -2 => (z % 2 = 1 ∧ z < 48) ∧ kk k n ls (vI 0 :: s) H
      | _ => False
    | _ => False
  | .putfield _ => match st with
    | .inl a :: .inr (.inr (.inl p)) :: s => (p ≠ 0 ∧ H.1[p]? = some (10 + x.toNat, nfs x.toNat)) ∧ (match fty x.toNat y.toNat with
        | 0 => kk k n ls s (H.1, H.2.1, up H.2.2 p y.toNat a)
        | 3 => (a = 0 ∨ a = 1) ∧ kk k n ls s (H.1, H.2.1, up H.2.2 p y.toNat a)
        | _ => False)
    | .inr (.inl a) :: .inr (.inr (.inl p)) :: s => (p ≠ 0 ∧ H.1[p]? = some (10 + x.toNat, nfs x.toNat)) ∧ (match fty x.toNat y.toNat with
        | 1 => kk k n ls s (H.1, H.2.1, up H.2.2 p y.toNat a)
        | _ => False)
    | .inr (.inr (.inl q)) :: .inr (.inr (.inl p)) :: s => (p ≠ 0 ∧ H.1[p]? = some (10 + x.toNat, nfs x.toNat)) ∧ (match fty x.toNat y.toNat with
        | 2 => kk k n ls s (H.1, up H.2.1 p y.toNat q, H.2.2)
        | _ => False)
    | _ => False
  | .iaload => match st with
    | .inl i :: .inr (.inr (.inl p)) :: s => ∃ N, (p ≠ 0 ∧ H.1[p]? = some (0, N)) ∧ (0 ≤ i ∧ i < (N : Int)) ∧ kk k n ls (vI (H.2.2 p i.toNat) :: s) H
    | .inl i :: .inr (.inr (.inr 0)) :: s => (0 ≤ i ∧ i < (sc.length : Int)) ∧ kk k n ls (vI (sc.getD i.toNat 0) :: s) H
    | _ => False
  | .iastore => match st with
    | .inl a :: .inl i :: .inr (.inr (.inl p)) :: s => ∃ N, (p ≠ 0 ∧ H.1[p]? = some (0, N)) ∧ (0 ≤ i ∧ i < (N : Int)) ∧ kk k n ls s (H.1, H.2.1, up H.2.2 p i.toNat a)
    | _ => False
  | .laload => match st with
    | .inl i :: .inr (.inr (.inl p)) :: s => ∃ N, (p ≠ 0 ∧ H.1[p]? = some (1, N)) ∧ (0 ≤ i ∧ i < (N : Int)) ∧ kk k n ls (vL (H.2.2 p i.toNat) :: s) H
    | _ => False
  | .lastore => match st with
    | .inr (.inl a) :: .inl i :: .inr (.inr (.inl p)) :: s => ∃ N, (p ≠ 0 ∧ H.1[p]? = some (1, N)) ∧ (0 ≤ i ∧ i < (N : Int)) ∧ kk k n ls s (H.1, H.2.1, up H.2.2 p i.toNat a)
    | _ => False
  | .aaload => match st with
    | .inl i :: .inr (.inr (.inl p)) :: s => ∃ N, (p ≠ 0 ∧ (H.1[p]? = some (2, N) ∨ H.1[p]? = some (3, N))) ∧ (0 ≤ i ∧ i < (N : Int)) ∧ kk k n ls (vR (H.2.1 p i.toNat) :: s) H
    | _ => False
  | .aastore => match st with
    | .inr (.inr (.inl q)) :: .inl i :: .inr (.inr (.inl p)) :: s => ∃ N, (p ≠ 0 ∧ H.1[p]? = some (3, N)) ∧ (0 ≤ i ∧ i < (N : Int)) ∧ (q = 0 ∨ H.1[q]? = some (19, 7)) ∧ kk k n ls s (H.1, up H.2.1 p i.toNat q, H.2.2)
    | _ => False
  | .baload => match st with
    | .inl i :: .inr (.inr (.inr z)) :: s => (z % 2 = 0 ∧ 0 < z ∧ z < 50) ∧ (0 ≤ i ∧ i < ((sbytes (z / 2 - 1)).length : Int)) ∧ kk k n ls (vI ((sbytes (z / 2 - 1)).getD i.toNat 0) :: s) H
    | _ => False
  | .arraylength => match st with
    | .inr (.inr (.inl p)) :: s => ∃ d N, (p ≠ 0 ∧ H.1[p]? = some (d, N) ∧ d < 4) ∧ kk k n ls (vI (N : Int) :: s) H
    | .inr (.inr (.inr z)) :: s => match z with
      | 0 => kk k n ls (vI (sc.length : Int) :: s) H
      | z + 1 => (z % 2 = 1 ∧ z < 48) ∧ kk k n ls (vI ((sbytes (z / 2)).length : Int) :: s) H
    | _ => False
  | .getstatic _ => match x with
    | 0 => kk k n ls (vI y :: st) H
    | _ => kk k n ls (vZ 100 :: st) H ∧ kk k n ls (vR 0 :: st) H
  | .new _ => (1 ≤ k ∧ nfs x.toNat ≤ n) ∧ kk (k - 1) (n - nfs x.toNat) ls (vR H.1.length :: st) (H.1 ++ [(10 + x.toNat, nfs x.toNat)], rowOf H.2.1 H.1.length (fun _ => 0), rowOf H.2.2 H.1.length (fun _ => 0))
  | .newarray t => match t, st with
    | .int, .inl a :: s => (0 ≤ a ∧ a ≤ 100000 ∧ 1 ≤ k ∧ a.toNat ≤ n) ∧ kk (k - 1) (n - a.toNat) ls (vR H.1.length :: s) (H.1 ++ [(0, a.toNat)], H.2.1, rowOf H.2.2 H.1.length (fun _ => 0))
    | .long, .inl a :: s => (0 ≤ a ∧ a ≤ 100000 ∧ 1 ≤ k ∧ a.toNat ≤ n) ∧ kk (k - 1) (n - a.toNat) ls (vR H.1.length :: s) (H.1 ++ [(1, a.toNat)], H.2.1, rowOf H.2.2 H.1.length (fun _ => 0))
    | _, _ => False
  | .anewarray _ => match st with
    | .inl a :: s => (0 ≤ a ∧ a ≤ 100000 ∧ 1 ≤ k ∧ a.toNat ≤ n) ∧ kk (k - 1) (n - a.toNat) ls (vR H.1.length :: s) (H.1 ++ [(3, a.toNat)], rowOf H.2.1 H.1.length (fun _ => 0), H.2.2)
    | _ => False
  | .multianewarray _ dm => match dm, st with
    | 2, .inl b :: .inl a :: s => (0 ≤ a ∧ a ≤ 1000 ∧ 0 ≤ b ∧ b ≤ 1000 ∧ 1 + a.toNat ≤ k ∧ a.toNat + a.toNat * b.toNat ≤ n) ∧ kk (k - (1 + a.toNat)) (n - (a.toNat + a.toNat * b.toNat)) ls (vR H.1.length :: s)
        (H.1 ++ ((2, a.toNat) :: List.replicate a.toNat (0, b.toNat)), rowOf H.2.1 H.1.length (fun i => if i < a.toNat then H.1.length + 1 + i else 0), fun p i => if H.1.length < p ∧ p ≤ H.1.length + a.toNat then 0 else H.2.2 p i)
    | _, _ => False
  | .invokespecial _ => match y with
    | -1 => match st with
      | .inr (.inr (.inl p)) :: s => (p ≠ 0 ∧ csum s ≤ 8) ∧ kk k n ls s H
      | _ => False
    | _ => (match st.drop (y.toNat / 2 - 1) with
      | .inr (.inr (.inl p)) :: _ => p ≠ 0
      | _ => False) ∧ (Pmc x.toNat ≤ k ∧ Pms x.toNat ≤ n) ∧ (y.toNat / 2 ≤ st.length ∧ csum (st.drop (y.toNat / 2)) ≤ 8) ∧ Cl x.toNat (st.take (y.toNat / 2)).reverse H (fun r H' => kk (k - Pmc x.toNat) (n - Pms x.toNat) ls (pushv (y.toNat % 2 == 1) r (st.drop (y.toNat / 2))) H')
  | .invokestatic _ => (Pmc x.toNat ≤ k ∧ Pms x.toNat ≤ n) ∧ (y.toNat / 2 ≤ st.length ∧ csum (st.drop (y.toNat / 2)) ≤ 8) ∧ Cl x.toNat (st.take (y.toNat / 2)).reverse H (fun r H' => kk (k - Pmc x.toNat) (n - Pms x.toNat) ls (pushv (y.toNat % 2 == 1) r (st.drop (y.toNat / 2))) H')
  | .invokevirtual _ => (match st.drop (y.toNat / 2 - 1) with
      | .inr (.inr (.inl p)) :: _ => p ≠ 0 ∧ Pown x.toNat < 13 ∧ H.1[p]? = some (10 + Pown x.toNat, nfs (Pown x.toNat))
      | .inr (.inr (.inr z)) :: _ => Pown x.toNat = 14 ∧ z % 2 = 1 ∧ z < 48
      | _ => False) ∧ (Pmc x.toNat ≤ k ∧ Pms x.toNat ≤ n) ∧ (y.toNat / 2 ≤ st.length ∧ csum (st.drop (y.toNat / 2)) ≤ 8) ∧ Cl x.toNat (st.take (y.toNat / 2)).reverse H (fun r H' => kk (k - Pmc x.toNat) (n - Pms x.toNat) ls (pushv (y.toNat % 2 == 1) r (st.drop (y.toNat / 2))) H')
  | _ => False
def wp : List Ins → Nat → Nat → LV → List V → HS → Prop
  | [], _, _, _, _, _ => False
  | i :: r, k, n, ls, st, H => stp sc J Rt Cl i.1 i.2.1 i.2.2.2.1 i.2.2.2.2 (wp r) k n ls st H
end STP
