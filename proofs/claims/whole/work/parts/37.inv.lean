-- the invariant between the class and the reference (by wip/whole/gen_inv.py)
def bt (x : Int) (p : Nat) : Int := x / 2 ^ p % 2
def RS (s nv se ts ha he le bk a : Nat → Int) : Prop :=
  (s 0 = a 0 ∧ 0 ≤ a 0 ∧ a 0 ≤ 6) ∧
  (s 7 = a 1 ∧ 0 ≤ a 1 ∧ a 1 ≤ 7) ∧
  (s 12 = a 10 ∧ 0 ≤ a 10 ∧ a 10 ≤ 9999) ∧
  (s 13 = a 11 ∧ 0 ≤ a 11 ∧ a 11 ≤ 99999999) ∧
  (s 14 = a 12 ∧ 0 ≤ a 12 ∧ a 12 ≤ 30402) ∧
  (s 17 = a 13 ∧ 0 ≤ a 13 ∧ a 13 ≤ 40) ∧
  (0 ≤ s 16 ∧ s 16 ≤ 39) ∧
  (0 ≤ s 1 ∧ s 1 < 64 ∧ 0 ≤ s 2 ∧ s 2 < 64 ∧ 0 ≤ s 8 ∧ s 8 < 128 ∧ 0 ≤ s 9 ∧ s 9 < 128) ∧
  (∀ p : Nat, p < 6 → (p : Int) < a 0 → bt (s 1) p = a (16 + 7 * p) ∧ nv p = a (17 + 7 * p) ∧ se p = a (18 + 7 * p) ∧ ha p = a (19 + 7 * p) ∧ bt (s 2) p = 1 - a (20 + 7 * p) ∧ ts p = a (21 + 7 * p)) ∧
  (∀ p : Nat, p < 6 → (0 ≤ nv p ∧ nv p ≤ 9) ∧ (0 ≤ se p ∧ se p ≤ 39) ∧ (0 ≤ ts p ∧ ts p ≤ 39) ∧ (0 ≤ ha p ∧ ha p ≤ 9)) ∧
  (∀ p : Nat, p < 6 → a 0 ≤ (p : Int) → bt (s 1) p = 0 ∧ bt (s 2) p = 0 ∧ ha p = 0) ∧
  (∀ c : Nat, c < 7 → (c : Int) < a 1 → he c = a (58 + 4 * c) ∧ le c = a (59 + 4 * c) ∧ bt (s 8) c = a (60 + 4 * c) ∧ bt (s 9) c = a (61 + 4 * c)) ∧
  (∀ c : Nat, c < 7 → (0 ≤ he c ∧ he c ≤ 9) ∧ (0 ≤ le c ∧ le c ≤ 9)) ∧
  (∀ c : Nat, c < 7 → a 1 ≤ (c : Int) → bt (s 8) c = 0 ∧ bt (s 9) c = 0) ∧
  (∀ i : Nat, (i : Int) < a 13 → bk ((s 16 + i) % 40).toNat = a (2524 + i) ∧ 0 ≤ a (2524 + i) ∧ a (2524 + i) % 8 < a 0 ∧ a (2524 + i) / 8 % 8 < a 1 ∧ a (2524 + i) / 64 ≤ 9999)
theorem RS.n {s nv se ts ha he le bk a : Nat → Int} (h : RS s nv se ts ha he le bk a) : s 0 = a 0 ∧ 0 ≤ a 0 ∧ a 0 ≤ 6 := h.1
theorem RS.m {s nv se ts ha he le bk a : Nat → Int} (h : RS s nv se ts ha he le bk a) : s 7 = a 1 ∧ 0 ≤ a 1 ∧ a 1 ≤ 7 := h.2.1
theorem RS.night {s nv se ts ha he le bk a : Nat → Int} (h : RS s nv se ts ha he le bk a) : s 12 = a 10 ∧ 0 ≤ a 10 ∧ a 10 ≤ 9999 := h.2.2.1
theorem RS.tak {s nv se ts ha he le bk a : Nat → Int} (h : RS s nv se ts ha he le bk a) : s 13 = a 11 ∧ 0 ≤ a 11 ∧ a 11 ≤ 99999999 := h.2.2.2.1
theorem RS.x {s nv se ts ha he le bk a : Nat → Int} (h : RS s nv se ts ha he le bk a) : s 14 = a 12 ∧ 0 ≤ a 12 ∧ a 12 ≤ 30402 := h.2.2.2.2.1
theorem RS.wr {s nv se ts ha he le bk a : Nat → Int} (h : RS s nv se ts ha he le bk a) : s 17 = a 13 ∧ 0 ≤ a 13 ∧ a 13 ≤ 40 := h.2.2.2.2.2.1
theorem RS.el {s nv se ts ha he le bk a : Nat → Int} (h : RS s nv se ts ha he le bk a) : 0 ≤ s 16 ∧ s 16 ≤ 39 := h.2.2.2.2.2.2.1
theorem RS.bits {s nv se ts ha he le bk a : Nat → Int} (h : RS s nv se ts ha he le bk a) : 0 ≤ s 1 ∧ s 1 < 64 ∧ 0 ≤ s 2 ∧ s 2 < 64 ∧ 0 ≤ s 8 ∧ s 8 < 128 ∧ 0 ≤ s 9 ∧ s 9 < 128 := h.2.2.2.2.2.2.2.1
theorem RS.pp {s nv se ts ha he le bk a : Nat → Int} (h : RS s nv se ts ha he le bk a) : ∀ p : Nat, p < 6 → (p : Int) < a 0 → bt (s 1) p = a (16 + 7 * p) ∧ nv p = a (17 + 7 * p) ∧ se p = a (18 + 7 * p) ∧ ha p = a (19 + 7 * p) ∧ bt (s 2) p = 1 - a (20 + 7 * p) ∧ ts p = a (21 + 7 * p) := h.2.2.2.2.2.2.2.2.1
theorem RS.pb {s nv se ts ha he le bk a : Nat → Int} (h : RS s nv se ts ha he le bk a) : ∀ p : Nat, p < 6 → (0 ≤ nv p ∧ nv p ≤ 9) ∧ (0 ≤ se p ∧ se p ≤ 39) ∧ (0 ≤ ts p ∧ ts p ≤ 39) ∧ (0 ≤ ha p ∧ ha p ≤ 9) := h.2.2.2.2.2.2.2.2.2.1
theorem RS.pr {s nv se ts ha he le bk a : Nat → Int} (h : RS s nv se ts ha he le bk a) : ∀ p : Nat, p < 6 → a 0 ≤ (p : Int) → bt (s 1) p = 0 ∧ bt (s 2) p = 0 ∧ ha p = 0 := h.2.2.2.2.2.2.2.2.2.2.1
theorem RS.cc {s nv se ts ha he le bk a : Nat → Int} (h : RS s nv se ts ha he le bk a) : ∀ c : Nat, c < 7 → (c : Int) < a 1 → he c = a (58 + 4 * c) ∧ le c = a (59 + 4 * c) ∧ bt (s 8) c = a (60 + 4 * c) ∧ bt (s 9) c = a (61 + 4 * c) := h.2.2.2.2.2.2.2.2.2.2.2.1
theorem RS.cb {s nv se ts ha he le bk a : Nat → Int} (h : RS s nv se ts ha he le bk a) : ∀ c : Nat, c < 7 → (0 ≤ he c ∧ he c ≤ 9) ∧ (0 ≤ le c ∧ le c ≤ 9) := h.2.2.2.2.2.2.2.2.2.2.2.2.1
theorem RS.cr {s nv se ts ha he le bk a : Nat → Int} (h : RS s nv se ts ha he le bk a) : ∀ c : Nat, c < 7 → a 1 ≤ (c : Int) → bt (s 8) c = 0 ∧ bt (s 9) c = 0 := h.2.2.2.2.2.2.2.2.2.2.2.2.2.1
theorem RS.bk {s nv se ts ha he le bk a : Nat → Int} (h : RS s nv se ts ha he le bk a) : ∀ i : Nat, (i : Int) < a 13 → bk ((s 16 + i) % 40).toNat = a (2524 + i) ∧ 0 ≤ a (2524 + i) ∧ a (2524 + i) % 8 < a 0 ∧ a (2524 + i) / 8 % 8 < a 1 ∧ a (2524 + i) / 64 ≤ 9999 := h.2.2.2.2.2.2.2.2.2.2.2.2.2.2
def RN (w rk sz l0 l1 l2 l3 a : Nat → Int) : Prop :=
  (∀ p : Nat, p < 6 → ((p : Int) < a 0 → w p = a (22 + 7 * p)) ∧ (a 0 ≤ (p : Int) → w p = 1) ∧ 0 ≤ w p ∧ w p ≤ 99) ∧
  (∀ k : Nat, k < 9 → rk k = a (174 + k) ∧ 0 ≤ a (174 + k) ∧ a (174 + k) ≤ 10) ∧
  (sz 0 = a 5 ∧ 0 ≤ a 5 ∧ a 5 ≤ 8) ∧
  (sz 1 = a 6 ∧ 0 ≤ a 6 ∧ a 6 ≤ 8) ∧
  (sz 2 = a 7 ∧ 0 ≤ a 7 ∧ a 7 ≤ 8) ∧
  (sz 3 = a 8 ∧ 0 ≤ a 8 ∧ a 8 ≤ 8) ∧
  (∀ k : Nat, (k : Int) < a 5 → l0 k = (a (86 + 3 * k) * 16 + a (87 + 3 * k)) * 16 + a (88 + 3 * k) ∧ (0 ≤ a (86 + 3 * k) ∧ a (86 + 3 * k) < a 0) ∧ (0 ≤ a (87 + 3 * k) ∧ a (87 + 3 * k) < a 1) ∧ 0 ≤ a (88 + 3 * k) ∧ a (88 + 3 * k) ≤ 1) ∧
  (∀ k : Nat, (k : Int) < a 6 → l1 k = (a (110 + 2 * k) * 16 + a (111 + 2 * k)) * 16 ∧ (0 ≤ a (110 + 2 * k) ∧ a (110 + 2 * k) < a 1) ∧ 0 ≤ a (111 + 2 * k) ∧ a (111 + 2 * k) < a 1) ∧
  (∀ k : Nat, (k : Int) < a 7 → l2 k = (a (126 + 3 * k) * 16 + a (127 + 3 * k)) * 16 + a (128 + 3 * k) ∧ (0 ≤ a (126 + 3 * k) ∧ a (126 + 3 * k) < a 0) ∧ (0 ≤ a (127 + 3 * k) ∧ a (127 + 3 * k) ≤ 3) ∧ 0 ≤ a (128 + 3 * k) ∧ a (128 + 3 * k) ≤ 1) ∧
  (∀ k : Nat, (k : Int) < a 8 → l3 k = (a (150 + 3 * k) * 16 + a (151 + 3 * k)) * 16 + a (152 + 3 * k) ∧ (0 ≤ a (150 + 3 * k) ∧ a (150 + 3 * k) < a 0) ∧ (0 ≤ a (151 + 3 * k) ∧ a (151 + 3 * k) < a 1) ∧ 0 ≤ a (152 + 3 * k) ∧ a (152 + 3 * k) ≤ 10)
theorem RN.ww {w rk sz l0 l1 l2 l3 a : Nat → Int} (h : RN w rk sz l0 l1 l2 l3 a) : ∀ p : Nat, p < 6 → ((p : Int) < a 0 → w p = a (22 + 7 * p)) ∧ (a 0 ≤ (p : Int) → w p = 1) ∧ 0 ≤ w p ∧ w p ≤ 99 := h.1
theorem RN.rk {w rk sz l0 l1 l2 l3 a : Nat → Int} (h : RN w rk sz l0 l1 l2 l3 a) : ∀ k : Nat, k < 9 → rk k = a (174 + k) ∧ 0 ≤ a (174 + k) ∧ a (174 + k) ≤ 10 := h.2.1
theorem RN.s0 {w rk sz l0 l1 l2 l3 a : Nat → Int} (h : RN w rk sz l0 l1 l2 l3 a) : sz 0 = a 5 ∧ 0 ≤ a 5 ∧ a 5 ≤ 8 := h.2.2.1
theorem RN.s1 {w rk sz l0 l1 l2 l3 a : Nat → Int} (h : RN w rk sz l0 l1 l2 l3 a) : sz 1 = a 6 ∧ 0 ≤ a 6 ∧ a 6 ≤ 8 := h.2.2.2.1
theorem RN.s2 {w rk sz l0 l1 l2 l3 a : Nat → Int} (h : RN w rk sz l0 l1 l2 l3 a) : sz 2 = a 7 ∧ 0 ≤ a 7 ∧ a 7 ≤ 8 := h.2.2.2.2.1
theorem RN.s3 {w rk sz l0 l1 l2 l3 a : Nat → Int} (h : RN w rk sz l0 l1 l2 l3 a) : sz 3 = a 8 ∧ 0 ≤ a 8 ∧ a 8 ≤ 8 := h.2.2.2.2.2.1
theorem RN.l0 {w rk sz l0 l1 l2 l3 a : Nat → Int} (h : RN w rk sz l0 l1 l2 l3 a) : ∀ k : Nat, (k : Int) < a 5 → l0 k = (a (86 + 3 * k) * 16 + a (87 + 3 * k)) * 16 + a (88 + 3 * k) ∧ (0 ≤ a (86 + 3 * k) ∧ a (86 + 3 * k) < a 0) ∧ (0 ≤ a (87 + 3 * k) ∧ a (87 + 3 * k) < a 1) ∧ 0 ≤ a (88 + 3 * k) ∧ a (88 + 3 * k) ≤ 1 := h.2.2.2.2.2.2.1
theorem RN.l1 {w rk sz l0 l1 l2 l3 a : Nat → Int} (h : RN w rk sz l0 l1 l2 l3 a) : ∀ k : Nat, (k : Int) < a 6 → l1 k = (a (110 + 2 * k) * 16 + a (111 + 2 * k)) * 16 ∧ (0 ≤ a (110 + 2 * k) ∧ a (110 + 2 * k) < a 1) ∧ 0 ≤ a (111 + 2 * k) ∧ a (111 + 2 * k) < a 1 := h.2.2.2.2.2.2.2.1
theorem RN.l2 {w rk sz l0 l1 l2 l3 a : Nat → Int} (h : RN w rk sz l0 l1 l2 l3 a) : ∀ k : Nat, (k : Int) < a 7 → l2 k = (a (126 + 3 * k) * 16 + a (127 + 3 * k)) * 16 + a (128 + 3 * k) ∧ (0 ≤ a (126 + 3 * k) ∧ a (126 + 3 * k) < a 0) ∧ (0 ≤ a (127 + 3 * k) ∧ a (127 + 3 * k) ≤ 3) ∧ 0 ≤ a (128 + 3 * k) ∧ a (128 + 3 * k) ≤ 1 := h.2.2.2.2.2.2.2.2.1
theorem RN.l3 {w rk sz l0 l1 l2 l3 a : Nat → Int} (h : RN w rk sz l0 l1 l2 l3 a) : ∀ k : Nat, (k : Int) < a 8 → l3 k = (a (150 + 3 * k) * 16 + a (151 + 3 * k)) * 16 + a (152 + 3 * k) ∧ (0 ≤ a (150 + 3 * k) ∧ a (150 + 3 * k) < a 0) ∧ (0 ≤ a (151 + 3 * k) ∧ a (151 + 3 * k) < a 1) ∧ 0 ≤ a (152 + 3 * k) ∧ a (152 + 3 * k) ≤ 10 := h.2.2.2.2.2.2.2.2.2
/-- a kept step: the class's row r, the reference's cells from x on; na, nm: how many there are now -/
def RT (r : Nat → Int) (a : Nat → Int) (x : Nat) : Prop :=
  (r 0 = a x ∧ 0 ≤ a x ∧ a x ≤ a 0) ∧ (0 ≤ a (x + 1) ∧ a (x + 1) ≤ a 1) ∧ (r 4 = a (x + 2) ∧ 0 ≤ a (x + 2) ∧ a (x + 2) ≤ 9999) ∧
  (r 5 = a (x + 3) ∧ 0 ≤ a (x + 3) ∧ a (x + 3) ≤ 99999999) ∧ (r 6 = a (x + 4) ∧ 0 ≤ a (x + 4) ∧ a (x + 4) ≤ 30402) ∧
  (r 8 = a (x + 5) ∧ 0 ≤ a (x + 5) ∧ a (x + 5) ≤ 40) ∧ (0 ≤ r 7 ∧ r 7 ≤ 39) ∧
  (0 ≤ r 1 ∧ r 1 < 128 ∧ 0 ≤ r 2 ∧ r 2 < 128 ∧ 0 ≤ r 3 ∧ r 3 < 64) ∧
  (∀ p : Nat, p < 6 → (p : Int) < a x → r (10 + p) = a (x + 6 + 3 * p) ∧ r (16 + p) = a (x + 7 + 3 * p) ∧ bt (r 3) p = 1 - a (x + 8 + 3 * p)) ∧
  (∀ p : Nat, p < 6 → (0 ≤ r (10 + p) ∧ r (10 + p) ≤ 39) ∧ (0 ≤ r (16 + p) ∧ r (16 + p) ≤ 9)) ∧
  (∀ p : Nat, p < 6 → a x ≤ (p : Int) → bt (r 3) p = 0) ∧
  (∀ c : Nat, c < 7 → (c : Int) < a (x + 1) → bt (r 1) c = a (x + 24 + 2 * c) ∧ bt (r 2) c = a (x + 25 + 2 * c)) ∧
  (∀ c : Nat, c < 7 → a (x + 1) ≤ (c : Int) → bt (r 1) c = 0 ∧ bt (r 2) c = 0) ∧
  (∀ i : Nat, (i : Int) < a (x + 5) → r (22 + ((r 7 + i) % 40).toNat) = a (x + 38 + i) ∧ 0 ≤ a (x + 38 + i) ∧ a (x + 38 + i) % 8 < a 0 ∧ a (x + 38 + i) / 8 % 8 < a 1 ∧ a (x + 38 + i) / 64 ≤ 9999)
/-- the house: steps' ring, texts, the ruling one -/
def RH (h : Nat → Int) (row : Nat → Nat → Int) (a : Nat → Int) : Prop :=
  (h 4 = a 4 ∧ 0 ≤ a 4 ∧ a 4 ≤ 30) ∧ (0 ≤ h 3 ∧ h 3 ≤ 29) ∧ (h 6 = a 2 ∧ 0 ≤ a 2 ∧ a 2 ≤ 4) ∧ (h 7 = a 3 ∧ -1 ≤ a 3 ∧ a 3 < a 2) ∧
  ∀ j : Nat, (j : Int) < a 4 → RT (row ((h 3 + j) % 30).toNat) a (184 + 78 * j)
theorem RH.st {h : Nat → Int} {row : Nat → Nat → Int} {a : Nat → Int} (H : RH h row a) : h 4 = a 4 ∧ 0 ≤ a 4 ∧ a 4 ≤ 30 := H.1
theorem RH.el {h : Nat → Int} {row : Nat → Nat → Int} {a : Nat → Int} (H : RH h row a) : 0 ≤ h 3 ∧ h 3 ≤ 29 := H.2.1
theorem RH.tx {h : Nat → Int} {row : Nat → Nat → Int} {a : Nat → Int} (H : RH h row a) : h 6 = a 2 ∧ 0 ≤ a 2 ∧ a 2 ≤ 4 := H.2.2.1
theorem RH.ru {h : Nat → Int} {row : Nat → Nat → Int} {a : Nat → Int} (H : RH h row a) : h 7 = a 3 ∧ -1 ≤ a 3 ∧ a 3 < a 2 := H.2.2.2.1
theorem RH.rt {h : Nat → Int} {row : Nat → Nat → Int} {a : Nat → Int} (H : RH h row a) : ∀ j : Nat, (j : Int) < a 4 → RT (row ((h 3 + j) % 30).toNat) a (184 + 78 * j) := H.2.2.2.2
/-- a run over a law's code: place, how many values lie there, where the total begins, values, its number of times, what it has, i -/
abbrev SS : Type := Nat × Nat × Nat × (Nat → Int) × Int × Int × Int
def upv (a : Nat → Int) (j : Nat) (v : Int) : Nat → Int := fun k => if k = j then v else a k
def hld (v : Int) : Int := if 1000000 < v then 1000000 else if v < -1000000 then -1000000 else v
def twoV (o x y : Int) : Int := if o = 4 then hld (x + y) else if o = 5 then hld (x - y) else if o = 6 then hld (x * y) else if y = 0 then 0 else x.tdiv y
/-- one deed (o, v by place; nm the names' values) -/
def st1 (o v nm : Nat → Int) (s : SS) : SS := match s with
  | (i, n, ag, vals, times, tot, i8) =>
    if o i = 0 then (i + 1, n + 1, ag, upv vals n (v i), times, tot, i8)
    else if o i = 1 then (i + 1, n + 1, ag, upv vals n (if v i = 8 then i8 else nm (v i).toNat), times, tot, i8)
    else if o i = 2 then (i + 1, n, i + 1, vals, v i, 0, 0)
    else if o i = 3 then (i + 1, n, ag, upv vals (n - 1) (-(vals (n - 1))), times, tot, i8)
    else if o i = 8 then
      (if i8 + 1 < times then (ag, n - 1, ag, upv vals (n - 1) (hld (tot + vals (n - 1))), times, hld (tot + vals (n - 1)), i8 + 1)
       else (i + 1, n, ag, upv vals (n - 1) (hld (tot + vals (n - 1))), times, hld (tot + vals (n - 1)), i8 + 1))
    else (i + 1, n - 1, ag, upv vals (n - 2) (twoV (o i) (vals (n - 2)) (vals (n - 1))), times, tot, i8)
def okN (n : Nat) (vals : Nat → Int) (times tot : Int) : Prop := (∀ j, j < n → -1000000 ≤ vals j ∧ vals j ≤ 1000000) ∧ (0 ≤ times ∧ times ≤ 9) ∧ -1000000 ≤ tot ∧ tot ≤ 1000000
def ok1 (o v : Nat → Int) (pays : Bool) (lo hi : Nat) (s : SS) : Prop := match s with
  | (i, n, ag, vals, times, tot, i8) => (lo ≤ i ∧ i < hi) ∧ n ≤ 36 ∧ ag ≤ 1000 ∧ okN n vals times tot ∧ (0 ≤ o i ∧ o i ≤ 8) ∧ (o i = 0 → 0 ≤ v i ∧ v i ≤ 9999) ∧ (o i = 1 → (0 ≤ v i ∧ v i ≤ 8) ∧ (pays = true → v i < 5 ∨ v i = 8) ∧ (v i = 8 → 0 ≤ i8 ∧ i8 ≤ 9)) ∧ (o i = 2 → 1 ≤ v i ∧ v i ≤ 9) ∧ (o i = 3 ∨ o i = 8 → 1 ≤ n) ∧ (4 ≤ o i → o i ≤ 7 → 2 ≤ n) ∧ (o i = 8 → 0 ≤ i8 ∧ i8 + 1 ≤ times)
def Run (o v nm : Nat → Int) (pays : Bool) (lo hi : Nat) : Nat → SS → SS → Prop
  | 0, s, t => s = t
  | k + 1, s, t => ok1 o v pays lo hi s ∧ Run o v nm pays lo hi k (st1 o v nm s) t
/-- X is what the stretch lo .. hi lays behind n values, whatever they are -/
def EvP (o v : Nat → Int) (pays inTot : Bool) (lo hi H : Nat) (X : (Nat → Int) → Int → Int) : Prop :=
  (pays = true → ∀ nm nm' i8, (∀ j, j < 5 → nm j = nm' j) → X nm i8 = X nm' i8) ∧ (inTot = false → ∀ nm i8 i8', X nm i8 = X nm i8') ∧
  ∀ (nm : Nat → Int), (∀ j, j < 8 → (pays = true → j < 5) → 0 ≤ nm j ∧ nm j ≤ 9999) → ∀ (n ag : Nat) (vals : Nat → Int) (times tot i8 : Int), n + H ≤ 37 → ag ≤ 1000 → okN n vals times tot → (inTot = true → 0 ≤ i8 ∧ i8 ≤ 9) →
    ∃ (k ag' : Nat) (vals' : Nat → Int) (times' tot' i8' : Int), k ≤ (if inTot then hi - lo else 9 * (hi - lo)) ∧ Run o v nm pays lo hi k (lo, n, ag, vals, times, tot, i8) (hi, n + 1, ag', vals', times', tot', i8') ∧
      (∀ j, j < n → vals' j = vals j) ∧ vals' n = X nm i8 ∧ ag' ≤ 1000 ∧ okN (n + 1) vals' times' tot' ∧ (inTot = true → ag' = ag ∧ times' = times ∧ tot' = tot ∧ i8' = i8)
def EvSeg (o v : Nat → Int) (pays inTot : Bool) (lo hi H : Nat) : Prop := ∃ X, EvP o v pays inTot lo hi H X
/-- the class's deed for the reference's -/
def deedOf (o : Int) : Int := if o = 0 then 0 else if o = 1 then 1 else if o = 2 then 7 else if o = 3 then 6 else if o = 4 then 2 else if o = 5 then 3 else if o = 6 then 4 else if o = 7 then 5 else 8
/-- law w of the text at q (class) is that of slot t (reference), c clauses, n deeds -/
def LawOk (g : Nat → Nat → Int) (T : Nat → Int) (q n c t w : Nat) : Prop :=
  (g (q + 1) w = 0 ∧ g (q + 2) w = 0 ∧ ∀ k : Nat, k < c → T (681 * t + 1 + 3 * k) ≠ w) ∨
  ∃ k lo hi : Nat, k < c ∧ T (681 * t + 1 + 3 * k) = w ∧ (∀ k' : Nat, k' < k → T (681 * t + 1 + 3 * k') ≠ w) ∧ g (q + 1) w = lo ∧ g (q + 2) w = hi ∧ T (681 * t + 2 + 3 * k) = lo ∧ T (681 * t + 3 + 3 * k) = hi ∧
    lo < hi ∧ hi ≤ n ∧ (∀ i : Nat, lo ≤ i → i < hi → g (q + 3) i = deedOf (T (681 * t + 73 + 2 * i)) * 10000 + T (681 * t + 74 + 2 * i) ∧ (2 < T (681 * t + 73 + 2 * i) → T (681 * t + 74 + 2 * i) = 0)) ∧
    EvSeg (fun i => T (681 * t + 73 + 2 * i)) (fun i => T (681 * t + 74 + 2 * i)) (w == 2) false lo hi 30
/-- clause k -/
def ClOk (g : Nat → Nat → Int) (T : Nat → Int) (q t k : Nat) : Prop :=
  g (q + 4) k = T (681 * t + 1 + 3 * k) ∧ 0 ≤ g (q + 4) k ∧ g (q + 4) k ≤ 10 ∧
  (3 ≤ g (q + 4) k → g (q + 5) k = T (681 * t + 2 + 3 * k) ∧ 0 ≤ g (q + 5) k ∧ g (q + 5) k ≤ 60 ∧ (g (q + 4) k = 10 → 1 ≤ g (q + 5) k)) ∧
  (g (q + 4) k = 3 ∨ g (q + 4) k = 4 ∨ g (q + 4) k = 5 ∨ g (q + 4) k = 9 → g (q + 6) k = T (681 * t + 3 + 3 * k) ∧ 0 ≤ g (q + 6) k ∧ g (q + 6) k ≤ 39)
def TextOk (dd : List (Nat × Nat)) (q : Nat) (g : Nat → Nat → Int) (T : Nat → Int) (t : Nat) : Prop :=
  ∃ j n c : Nat, dd[j]? = some (n, c) ∧ q = 149 + 7 * j ∧ c ≤ 24 ∧ n ≤ 300 ∧ g q 3 = c ∧ T (681 * t) = c ∧ (∀ k : Nat, k < c → ClOk g T q t k) ∧ ∀ w : Nat, w < 3 → LawOk g T q n c t w
/-- the texts of the house -/
def RXt (dd : List (Nat × Nat)) (sh : Nat → Nat → Nat) (g : Nat → Nat → Int) (a T : Nat → Int) : Prop := ∀ t : Nat, t < 4 → (t : Int) < a 2 → TextOk dd (sh 51 t) g T t
/-- shelves hold texts or nothing; the image's texts are the house's first -/
def RXs (dd : List (Nat × Nat)) (sh : Nat → Nat → Nat) (a b : Nat → Int) : Prop :=
  (∀ t : Nat, t < 4 → sh 51 t = 0 ∨ ∃ j, j < dd.length ∧ sh 51 t = 149 + 7 * j) ∧
  (∀ t : Nat, t < 4 → sh 101 t = 0 ∨ ∃ j, j < dd.length ∧ sh 101 t = 149 + 7 * j) ∧
  b 2 ≤ a 2 ∧ ∀ t : Nat, t < 4 → (t : Int) < b 2 → sh 101 t = sh 51 t
/-- tape, fault, and that the reference writes its book -/
def RXp (tp by_ rd m mt : Nat → Int) : Prop :=
  (tp 1 = m 4 ∧ 0 ≤ m 4 ∧ m 4 ≤ 300) ∧ (∀ i : Nat, i < 300 → by_ i = mt i ∧ 0 ≤ mt i ∧ mt i ≤ 255) ∧
  (rd 1 = m 5 ∧ -1 ≤ m 5 ∧ m 5 ≤ 7) ∧ (rd 2 = m 6 ∧ -1 ≤ m 6 ∧ m 6 ≤ 300) ∧ m 22 = 1
abbrev RSc (g : Nat → Nat → Int) (a : Nat → Int) : Prop := RS (g 3) (g 4) (g 5) (g 6) (g 7) (g 8) (g 9) (g 10) a
abbrev RNc (g : Nat → Nat → Int) (a : Nat → Int) : Prop := RN (g 12) (g 13) (g 14) (g 16) (g 17) (g 18) (g 19) a
abbrev RHc (g : Nat → Nat → Int) (a : Nat → Int) : Prop := RH (g 2) (fun k => g (21 + k)) a
abbrev RSi (g : Nat → Nat → Int) (a : Nat → Int) : Prop := RS (g 53) (g 54) (g 55) (g 56) (g 57) (g 58) (g 59) (g 60) a
abbrev RNi (g : Nat → Nat → Int) (a : Nat → Int) : Prop := RN (g 62) (g 63) (g 64) (g 66) (g 67) (g 68) (g 69) a
abbrev RHi (g : Nat → Nat → Int) (a : Nat → Int) : Prop := RH (g 52) (fun k => g (71 + k)) a
abbrev RXg (g : Nat → Nat → Int) : Prop := RXp (g 102) (g 103) (g 108) (g 134) (g 138)
def Inv (dd : List (Nat × Nat)) (sh : Nat → Nat → Nat) (g : Nat → Nat → Int) : Prop :=
  RSc g (g 135) ∧ RNc g (g 135) ∧ RHc g (g 135) ∧ RXt dd sh g (g 135) (g 137) ∧ RSi g (g 136) ∧ RNi g (g 136) ∧ RHi g (g 136) ∧ RXs dd sh (g 135) (g 136) ∧ RXg g
theorem Inv.s {dd : List (Nat × Nat)} {sh : Nat → Nat → Nat} {g : Nat → Nat → Int} (h : Inv dd sh g) : RSc g (g 135) := h.1
theorem Inv.nn {dd : List (Nat × Nat)} {sh : Nat → Nat → Nat} {g : Nat → Nat → Int} (h : Inv dd sh g) : RNc g (g 135) := h.2.1
theorem Inv.h {dd : List (Nat × Nat)} {sh : Nat → Nat → Nat} {g : Nat → Nat → Int} (h : Inv dd sh g) : RHc g (g 135) := h.2.2.1
theorem Inv.xt {dd : List (Nat × Nat)} {sh : Nat → Nat → Nat} {g : Nat → Nat → Int} (h : Inv dd sh g) : RXt dd sh g (g 135) (g 137) := h.2.2.2.1
theorem Inv.si {dd : List (Nat × Nat)} {sh : Nat → Nat → Nat} {g : Nat → Nat → Int} (h : Inv dd sh g) : RSi g (g 136) := h.2.2.2.2.1
theorem Inv.ni {dd : List (Nat × Nat)} {sh : Nat → Nat → Nat} {g : Nat → Nat → Int} (h : Inv dd sh g) : RNi g (g 136) := h.2.2.2.2.2.1
theorem Inv.hi {dd : List (Nat × Nat)} {sh : Nat → Nat → Nat} {g : Nat → Nat → Int} (h : Inv dd sh g) : RHi g (g 136) := h.2.2.2.2.2.2.1
theorem Inv.xs {dd : List (Nat × Nat)} {sh : Nat → Nat → Nat} {g : Nat → Nat → Int} (h : Inv dd sh g) : RXs dd sh (g 135) (g 136) := h.2.2.2.2.2.2.2.1
theorem Inv.x {dd : List (Nat × Nat)} {sh : Nat → Nat → Nat} {g : Nat → Nat → Int} (h : Inv dd sh g) : RXg g := h.2.2.2.2.2.2.2.2
/-- what the reference's cells alone are -/
def AB (a : Nat → Int) : Prop :=
  (0 ≤ a 0 ∧ a 0 ≤ 6) ∧ (0 ≤ a 1 ∧ a 1 ≤ 7) ∧ (0 ≤ a 10 ∧ a 10 ≤ 9999) ∧ (0 ≤ a 11 ∧ a 11 ≤ 99999999) ∧ (0 ≤ a 12 ∧ a 12 ≤ 30402) ∧ (0 ≤ a 13 ∧ a 13 ≤ 40) ∧
  (∀ p : Nat, p < 6 → (p : Int) < a 0 → (0 ≤ a (16 + 7 * p) ∧ a (16 + 7 * p) ≤ 1) ∧ (0 ≤ a (17 + 7 * p) ∧ a (17 + 7 * p) ≤ 9) ∧ (0 ≤ a (18 + 7 * p) ∧ a (18 + 7 * p) ≤ 39) ∧ (0 ≤ a (19 + 7 * p) ∧ a (19 + 7 * p) ≤ 9) ∧ (0 ≤ a (20 + 7 * p) ∧ a (20 + 7 * p) ≤ 1) ∧ (0 ≤ a (21 + 7 * p) ∧ a (21 + 7 * p) ≤ 39)) ∧
  (∀ c : Nat, c < 7 → (c : Int) < a 1 → (0 ≤ a (58 + 4 * c) ∧ a (58 + 4 * c) ≤ 9) ∧ (0 ≤ a (59 + 4 * c) ∧ a (59 + 4 * c) ≤ 9) ∧ (0 ≤ a (60 + 4 * c) ∧ a (60 + 4 * c) ≤ 1) ∧ (0 ≤ a (61 + 4 * c) ∧ a (61 + 4 * c) ≤ 1)) ∧
  (∀ i : Nat, (i : Int) < a 13 → 0 ≤ a (2524 + i) ∧ a (2524 + i) % 8 < a 0 ∧ a (2524 + i) / 8 % 8 < a 1 ∧ a (2524 + i) / 64 ≤ 9999)
theorem AB.n {a : Nat → Int} (h : AB a) : 0 ≤ a 0 ∧ a 0 ≤ 6 := h.1
theorem AB.m {a : Nat → Int} (h : AB a) : 0 ≤ a 1 ∧ a 1 ≤ 7 := h.2.1
theorem AB.night {a : Nat → Int} (h : AB a) : 0 ≤ a 10 ∧ a 10 ≤ 9999 := h.2.2.1
theorem AB.tak {a : Nat → Int} (h : AB a) : 0 ≤ a 11 ∧ a 11 ≤ 99999999 := h.2.2.2.1
theorem AB.x {a : Nat → Int} (h : AB a) : 0 ≤ a 12 ∧ a 12 ≤ 30402 := h.2.2.2.2.1
theorem AB.wr {a : Nat → Int} (h : AB a) : 0 ≤ a 13 ∧ a 13 ≤ 40 := h.2.2.2.2.2.1
theorem AB.pp {a : Nat → Int} (h : AB a) : ∀ p : Nat, p < 6 → (p : Int) < a 0 → (0 ≤ a (16 + 7 * p) ∧ a (16 + 7 * p) ≤ 1) ∧ (0 ≤ a (17 + 7 * p) ∧ a (17 + 7 * p) ≤ 9) ∧ (0 ≤ a (18 + 7 * p) ∧ a (18 + 7 * p) ≤ 39) ∧ (0 ≤ a (19 + 7 * p) ∧ a (19 + 7 * p) ≤ 9) ∧ (0 ≤ a (20 + 7 * p) ∧ a (20 + 7 * p) ≤ 1) ∧ (0 ≤ a (21 + 7 * p) ∧ a (21 + 7 * p) ≤ 39) := h.2.2.2.2.2.2.1
theorem AB.cc {a : Nat → Int} (h : AB a) : ∀ c : Nat, c < 7 → (c : Int) < a 1 → (0 ≤ a (58 + 4 * c) ∧ a (58 + 4 * c) ≤ 9) ∧ (0 ≤ a (59 + 4 * c) ∧ a (59 + 4 * c) ≤ 9) ∧ (0 ≤ a (60 + 4 * c) ∧ a (60 + 4 * c) ≤ 1) ∧ (0 ≤ a (61 + 4 * c) ∧ a (61 + 4 * c) ≤ 1) := h.2.2.2.2.2.2.2.1
theorem AB.bk {a : Nat → Int} (h : AB a) : ∀ i : Nat, (i : Int) < a 13 → 0 ≤ a (2524 + i) ∧ a (2524 + i) % 8 < a 0 ∧ a (2524 + i) / 8 % 8 < a 1 ∧ a (2524 + i) / 64 ≤ 9999 := h.2.2.2.2.2.2.2.2
theorem bt01 (x : Int) (p : Nat) : 0 ≤ bt x p ∧ bt x p ≤ 1 := by unfold bt; omega
theorem RS.ab {s nv se ts ha he le bk a : Nat → Int} (h : RS s nv se ts ha he le bk a) : AB a := by
  refine ⟨h.n.2, h.m.2, h.night.2, h.tak.2, h.x.2, h.wr.2, fun p hp hn => ?_, fun c hc hm => ?_, fun i hi => ?_⟩
  · obtain ⟨h1, h2, h3, h4, h5, h6⟩ := h.pp p hp hn
    have hb := h.pb p hp
    have := bt01 (s 1) p
    have := bt01 (s 2) p
    omega
  · obtain ⟨h1, h2, h3, h4⟩ := h.cc c hc hm
    have hb := h.cb c hc
    have := bt01 (s 8) c
    have := bt01 (s 9) c
    omega
  · exact (h.bk i hi).2
