-- how many orders
set_option maxRecDepth 100000 in
theorem clr_dec : ∀ s : Nat, s < 128 → ∀ c : Nat, c < 7 → iand (s : Int) (ixor ((1 : Int) * 2 ^ c) (-1)) = (if bt (s : Int) c = 1 then (s : Int) - 2 ^ c else (s : Int)) := by decide +kernel
set_option maxRecDepth 100000 in
theorem clr_le : ∀ s : Nat, s < 128 → ∀ c : Nat, c < 7 → bt (s : Int) c = 1 → (2 : Int) ^ c ≤ (s : Int) ∧ (1 : Int) ≤ 2 ^ c ∧ sm (bt ((s : Int) - 2 ^ c)) 7 = sm (bt (s : Int)) 7 - 1 := by decide +kernel
set_option maxRecDepth 100000 in
theorem sub_dec : ∀ m : Nat, m < 128 → ∀ o : Nat, o < 128 → (iand (m : Int) (ixor (o : Int) (-1)) = 0 ↔ ∀ x : Nat, x < 7 → bt (m : Int) x = 1 → bt (o : Int) x = 1) := by decide +kernel
/-- may scene c come, when the scenes of had have been given? -/
def cnF (a : Nat → Int) (c : Nat) (had : Int) : Nat → Int
  | 0 => 1
  | k + 1 => if a (111 + 2 * k) = (c : Int) ∧ bt had (a (110 + 2 * k)).toNat = 0 then 0 else cnF a c had k
theorem cnF_b (a : Nat → Int) (c : Nat) (had : Int) (k : Nat) : cnF a c had k = 0 ∨ cnF a c had k = 1 := by
  induction k with
  | zero => exact Or.inr rfl
  | succ k ih => unfold cnF; split <;> omega
theorem cnF_zero {a : Nat → Int} {c : Nat} {had : Int} {k : Nat} (h1 : a (111 + 2 * k) = (c : Int)) (h2 : bt had (a (110 + 2 * k)).toNat = 0) : ∀ n, k < n → cnF a c had n = 0 := by
  intro n hn
  induction n with
  | zero => omega
  | succ n ih =>
    unfold cnF
    by_cases e : k = n
    · subst e; rw [if_pos ⟨h1, h2⟩]
    · split
      · rfl
      · exact ih (by omega)
theorem cnF_one {a : Nat → Int} {c : Nat} {had : Int} {n : Nat} (h : ∀ k, k < n → a (111 + 2 * k) = (c : Int) → bt had (a (110 + 2 * k)).toNat = 1) : cnF a c had n = 1 := by
  induction n with
  | zero => rfl
  | succ n ih =>
    unfold cnF
    rw [if_neg (fun x => by have := h n (by omega) x.1; omega)]
    exact ih fun k hk => h k (by omega)
/-- how many ways to a set s end with scene c -/
def wtm (a : Nat → Int) (n : Nat) (w : Nat → Int) (s : Nat) (c : Nat) : Int := if bt (s : Int) c = 1 ∧ cnF a c ((s : Int) - 2 ^ c) n = 1 then w ((s : Int) - 2 ^ c).toNat else 0
/-- how many ways to each set below k -/
def wy (a : Nat → Int) (n m : Nat) : Nat → Nat → Int
  | 0 => fun _ => 1
  | k + 1 => fun s => if s = k + 1 then sm (wtm a n (wy a n m k) (k + 1)) m else wy a n m k s
theorem wy_b (a : Nat → Int) (n m : Nat) (hm : m ≤ 7) : ∀ k, k < 128 → ∀ s, s ≤ k → 0 ≤ wy a n m k s ∧ wy a n m k s ≤ 7 ^ (sm (bt (s : Int)) 7).toNat := by
  intro k
  induction k with
  | zero =>
    intro _ s hs
    obtain rfl : s = 0 := by omega
    exact ⟨show (0 : Int) ≤ 1 by decide, show (1 : Int) ≤ 7 ^ (sm (bt ((0 : Nat) : Int)) 7).toNat by decide⟩
  | succ k ih =>
    intro hk s hs
    unfold wy
    by_cases e : s = k + 1
    · subst e
      simp only [if_true]
      have hb := sm_bound (f := bt ((k + 1 : Nat) : Int)) (n := 7) (B := 1) fun j _ => bt01 _ j
      by_cases h1 : 1 ≤ sm (bt ((k + 1 : Nat) : Int)) 7
      · have hbb := sm_bound (f := wtm a n (wy a n m k) (k + 1)) (n := m) (B := 7 ^ ((sm (bt ((k + 1 : Nat) : Int)) 7).toNat - 1)) fun c hc => by
          have hp : (0 : Int) < 7 ^ ((sm (bt ((k + 1 : Nat) : Int)) 7).toNat - 1) := Int.pow_pos (by decide)
          unfold wtm
          split
          · next h =>
            have hl := clr_le (k + 1) (by omega) c (by omega) h.1
            have := ih (by omega) (((k + 1 : Nat) : Int) - 2 ^ c).toNat (by omega)
            rw [show ((((k + 1 : Nat) : Int) - 2 ^ c).toNat : Int) = ((k + 1 : Nat) : Int) - 2 ^ c by omega, hl.2.2, show (sm (bt ((k + 1 : Nat) : Int)) 7 - 1).toNat = (sm (bt ((k + 1 : Nat) : Int)) 7).toNat - 1 by omega] at this
            exact this
          · omega
        have hp : (0 : Int) < 7 ^ ((sm (bt ((k + 1 : Nat) : Int)) 7).toNat - 1) := Int.pow_pos (by decide)
        have e7 : (7 : Int) ^ (sm (bt ((k + 1 : Nat) : Int)) 7).toNat = 7 ^ ((sm (bt ((k + 1 : Nat) : Int)) 7).toNat - 1) * 7 := by
          rw [show (sm (bt ((k + 1 : Nat) : Int)) 7).toNat = (sm (bt ((k + 1 : Nat) : Int)) 7).toNat - 1 + 1 by omega, Int.pow_succ]
          rfl
        rw [e7]
        have hmm : (m : Int) * 7 ^ ((sm (bt ((k + 1 : Nat) : Int)) 7).toNat - 1) ≤ 7 * 7 ^ ((sm (bt ((k + 1 : Nat) : Int)) 7).toNat - 1) := Int.mul_le_mul_of_nonneg_right (by omega) (by omega)
        omega
      · have hz : sm (wtm a n (wy a n m k) (k + 1)) m = 0 := by
          have := sm_zero (f := wtm a n (wy a n m k) (k + 1)) (n := 0) (m := m) (by omega) (fun c _ hc => by
            unfold wtm
            rw [if_neg]
            intro h
            have h2 := bt_sum_le ((k + 1 : Nat) : Int) (show c + 1 ≤ 7 by omega)
            have h3 : sm (bt ((k + 1 : Nat) : Int)) (c + 1) = sm (bt ((k + 1 : Nat) : Int)) c + bt ((k + 1 : Nat) : Int) c := rfl
            have h4 := cnt_b ((k + 1 : Nat) : Int) c
            omega)
          exact this
        rw [hz]
        have hp : (0 : Int) < 7 ^ (sm (bt ((k + 1 : Nat) : Int)) 7).toNat := Int.pow_pos (by decide)
        omega
    · rw [if_neg e]
      exact ih (by omega) s (by omega)
theorem wy_stay (a : Nat → Int) (n m : Nat) {k s : Nat} (h : s ≤ k) : wy a n m (k + 1) s = wy a n m k s := if_neg (by omega)
theorem s_X12_canCome {d : Nat} {dd : List (Nat × Nat)} {sh : Nat → Nat → Nat} {g : Nat → Nat → Int} {K : Int → (Nat → Nat → Int) → Prop} {c n : Nat} {had : Int} (hc : c < 7) (hn : g 135 6 = (n : Int)) (hn8 : n ≤ 8) (hh : 0 ≤ had ∧ had ≤ 2147483647) (ha : ∀ k, k < n → (0 ≤ g 135 (110 + 2 * k) ∧ g 135 (110 + 2 * k) < 7) ∧ 0 ≤ g 135 (111 + 2 * k) ∧ g 135 (111 + 2 * k) < 7) (hK : K (cnF (g 135) c had n) g) : cI (d + 2) m_X12_canCome [(vR 134), (vI ((c : Int))), (vI had)] dd sh g K := by
  refine mkI (ls := [some (vR 134), some (vI ((c : Int))), some (vI had), none]) rfl rfl rfl rfl rfl (r_X12_canCome_0 ?_)
  refine loop (P := fun k => (∀ j, j < k → g 135 (111 + 2 * j) = (c : Int) → bt had (g 135 (110 + 2 * j)).toNat = 1) → rI (d + 1) m_X12_canCome 2 [some (vR 134), some (vI ((c : Int))), some (vI had), some (vI ((k : Int)))] [] dd sh g K) (n := n) ?_ ?_ 0 (by omega) (fun j hj => absurd hj (by omega))
  · intro hall
    rw [cnF_one hall] at hK
    exact r_X12_canCome_2 ⟨⟨by omega, by omega⟩, ⟨by omega, by omega⟩, fun _ => hK, fun h => absurd h (by omega)⟩
  · intro k hk ih hall
    have hak := ha k hk
    refine r_X12_canCome_2 ?_
    rw [show ((110 + (2 * (k : Int))) + 1).toNat = 111 + 2 * k by omega, show (110 + (2 * (k : Int))).toNat = 110 + 2 * k by omega]
    refine ⟨⟨by omega, by omega⟩, ⟨by omega, by omega⟩, fun h => absurd h (by omega), fun _ => ⟨by omega, by omega, ⟨by omega, by omega⟩, ⟨by omega, by omega⟩, fun h => ?_, fun h => ⟨by omega, by omega, ?_⟩⟩⟩
    · exact ih fun j hj hjc => by
        by_cases e : j = k
        · subst e; exact absurd hjc h
        · exact hall j (by omega) hjc
    · refine s_X12_has hh.1 hh.2 (by omega) (by omega) fun r er r0 r1 => ⟨⟨by omega, by omega⟩, fun h2 => ?_, fun h2 => ?_⟩
      · exact ih fun j hj hjc => by
          by_cases e : j = k
          · subst e; omega
          · exact hall j (by omega) hjc
      · rw [cnF_zero h (by omega) n hk] at hK
        exact hK
/-- what must be given before scene c, of the first k -/
def mbF (a : Nat → Int) (c : Nat) : Nat → Int
  | 0 => 0
  | k + 1 => if a (111 + 2 * k) = (c : Int) then ior (mbF a c k) ((1 : Int) * 2 ^ (a (110 + 2 * k)).toNat) else mbF a c k
theorem mbF_ok {a : Nat → Int} {n : Nat} (ha : ∀ k, k < n → (0 ≤ a (110 + 2 * k) ∧ a (110 + 2 * k) < 7)) (c : Nat) : ∀ k, k ≤ n → 0 ≤ mbF a c k ∧ mbF a c k < 128 ∧ ∀ had : Int, (cnF a c had k = 1 ↔ ∀ x : Nat, x < 7 → bt (mbF a c k) x = 1 → bt had x = 1) := by
  intro k
  induction k with
  | zero =>
    intro _
    refine ⟨show (0 : Int) ≤ 0 by decide, show (0 : Int) < 128 by decide, fun had => ⟨fun _ x hx h => ?_, fun _ => rfl⟩⟩
    have : bt 0 x = 0 := bt_zero (q := 0) (by decide) (by decide) (by omega)
    have h' : bt 0 x = 1 := h
    omega
  | succ k ih =>
    intro hk
    obtain ⟨i1, i2, i3⟩ := ih (by omega)
    have hak := ha k (by omega)
    unfold mbF
    by_cases e : a (111 + 2 * k) = (c : Int)
    · rw [if_pos e]
      obtain ⟨o1, o2, -, o4⟩ := ior_bt (n := (a (110 + 2 * k)).toNat) i1 i2 (by omega)
      refine ⟨o1, o2, fun had => ?_⟩
      unfold cnF
      have hb := bt01 had (a (110 + 2 * k)).toNat
      by_cases h0 : bt had (a (110 + 2 * k)).toNat = 0
      · rw [if_pos ⟨e, h0⟩]
        refine ⟨fun h => absurd h (by decide), fun h => ?_⟩
        have := h (a (110 + 2 * k)).toNat (by omega) (by rw [o4 _ (by omega), if_pos rfl])
        omega
      · rw [if_neg (fun x => h0 x.2), i3 had]
        refine ⟨fun h x hx hb2 => ?_, fun h x hx hb2 => h x hx ?_⟩
        · rw [o4 x hx] at hb2
          by_cases ex : x = (a (110 + 2 * k)).toNat
          · subst ex; omega
          · rw [if_neg ex] at hb2; exact h x hx hb2
        · rw [o4 x hx]
          by_cases ex : x = (a (110 + 2 * k)).toNat
          · rw [if_pos ex]
          · rw [if_neg ex]; exact hb2
    · rw [if_neg e]
      refine ⟨i1, i2, fun had => ?_⟩
      unfold cnF
      rw [if_neg (fun x => e x.1)]
      exact i3 had
theorem mbF_sub {a : Nat → Int} {n : Nat} (ha : ∀ k, k < n → (0 ≤ a (110 + 2 * k) ∧ a (110 + 2 * k) < 7)) (c : Nat) {o : Int} (ho : 0 ≤ o ∧ o < 128) : iand (mbF a c n) (ixor o (-1)) = 0 ↔ cnF a c o n = 1 := by
  obtain ⟨h1, h2, h3⟩ := mbF_ok ha c n (Nat.le_refl _)
  rw [h3 o]
  obtain ⟨x, hx⟩ := Int.eq_ofNat_of_zero_le h1
  obtain ⟨y, rfl⟩ := Int.eq_ofNat_of_zero_le ho.1
  rw [hx]
  exact sub_dec x (by omega) y (by omega)
theorem sim_orders : S_orders := by
  intro dd sh g hI
  have em := hI.s.m
  have s1 := hI.nn.s1
  obtain ⟨m, hm⟩ := Int.eq_ofNat_of_zero_le em.2.1
  obtain ⟨n, hn⟩ := Int.eq_ofNat_of_zero_le s1.2.1
  have ha : ∀ k, k < n → (0 ≤ g 135 (110 + 2 * k) ∧ g 135 (110 + 2 * k) < 7) ∧ 0 ≤ g 135 (111 + 2 * k) ∧ g 135 (111 + 2 * k) < 7 := fun k hk => by have := hI.nn.l1 k (by omega); omega
  have ha1 : ∀ k, k < n → (0 ≤ g 135 (110 + 2 * k) ∧ g 135 (110 + 2 * k) < 7) := fun k hk => (ha k hk).1
  have e2 : ((1 : Int) * 2 ^ ((m : Nat) : Int).toNat) = ((2 ^ m : Nat) : Int) := one_two m
  have e128 : 2 ^ m ≤ 128 := Nat.pow_le_pow_right (n := 2) (j := 7) (by decide) (by omega)
  have e00 : 0 < 2 ^ m := Nat.pow_pos (by decide)
  obtain ⟨N, hN⟩ : ∃ N, N + 1 = 2 ^ m := ⟨2 ^ m - 1, by omega⟩
  rw [← hN] at e2 e128 e00
  have res := wy_b (g 135) n m (by omega) N (by omega) N (Nat.le_refl _)
  have hpc := sm_bound (f := bt ((N : Nat) : Int)) (n := 7) (B := 1) fun j _ => bt01 _ j
  have hpw : (7 : Int) ^ (sm (bt (N : Int)) 7).toNat ≤ 7 ^ 7 := by
    have := Nat.pow_le_pow_right (n := 7) (j := 7) (show 0 < 7 by decide) (show (sm (bt (N : Int)) 7).toNat ≤ 7 by omega)
    have h2 : ((7 ^ (sm (bt (N : Int)) 7).toNat : Nat) : Int) ≤ ((7 ^ 7 : Nat) : Int) := by omega
    rw [Int.natCast_pow, Int.natCast_pow] at h2
    exact h2
  have h77 : (7 : Int) ^ 7 = 823543 := by decide
  have hres : i32 (wy (g 135) n m N N) := ⟨by omega, by omega⟩
  unfold SimI
  have ref : ∀ g1, ClScr g g1 → cI 200 m_X12_orders [vR 134] dd sh g1 (fun r' g3 => wy (g 135) n m N N = r' ∧ i32 (wy (g 135) n m N N) ∧ Inv dd sh g3) := by
    intro g1 hs
    have hup : ∀ g' : Nat → Nat → Int, (∀ q, q ≠ 146 → g' q = g1 q) → RefScr g1 g' := fun g' h => ⟨fun q hq => h q (by omega), fun k _ => by rw [h 134 (by omega)]⟩
    have e135 : ∀ g' : Nat → Nat → Int, (∀ q, q ≠ 146 → g' q = g1 q) → g' 135 = g 135 := fun g' h => by rw [h 135 (by decide), hs 135 (by omega)]
    refine mkI (ls := [some (vR 134), none, none]) rfl rfl rfl rfl rfl (r_X12_orders_0 ?_)
    refine loop (P := fun k => ∀ g', (∀ q, q ≠ 146 → g' q = g1 q) → (∀ s, s ≤ k → g' 146 s = wy (g 135) n m k s) → rI 199 m_X12_orders 9 [some (vR 134), some (vI (((k : Int) + 1))), none] [] dd sh (g') (fun r' g3 => wy (g 135) n m N N = r' ∧ i32 (wy (g 135) n m N N) ∧ Inv dd sh g3)) (n := N) ?_ ?_ 0 (by omega) (up g1 146 0 1) (fun q hq => up_off hq) (fun s hs0 => (by have e : s = 0 := Nat.le_zero.mp hs0; subst e; show (up g1 146 0 1) 146 0 = 1; rw [up_at, if_pos rfl]))
    · intro g' f1 f2
      refine r_X12_orders_9 ?_
      rw [e135 g' f1, hm, e2]
      refine ⟨by omega, by omega, ⟨by omega, by omega⟩, ⟨by omega, by omega⟩, fun _ => ⟨by omega, by omega, ?_⟩, fun h => absurd h (by omega)⟩
      rw [show (((N + 1 : Nat) : Int) - 1).toNat = N by omega, f2 N (Nat.le_refl _)]
      exact ⟨rfl, hres, hI.scr hs (hup g' f1)⟩
    · intro k hk ih g' f1 f2
      refine r_X12_orders_9 ?_
      rw [e135 g' f1, hm, e2]
      refine ⟨by omega, by omega, ⟨by omega, by omega⟩, ⟨by omega, by omega⟩, fun h => absurd h (by omega), fun _ => ⟨by omega, by omega, ?_⟩⟩
      rw [show ((k : Int) + 1).toNat = k + 1 by omega]
      refine loop (P := fun c => ∀ g', (∀ q, q ≠ 146 → g' q = g1 q) → (∀ s, s ≤ k → g' 146 s = wy (g 135) n m k s) → g' 146 (k + 1) = sm (wtm (g 135) n (wy (g 135) n m k) (k + 1)) c → rI 199 m_X12_orders 30 [some (vR 134), some (vI (((k : Int) + 1))), some (vI ((c : Int)))] [] dd sh (g') (fun r' g3 => wy (g 135) n m N N = r' ∧ i32 (wy (g 135) n m N N) ∧ Inv dd sh g3)) (n := m) ?_ ?_ 0 (by omega) _ (fun q hq => by rw [up_off hq]; exact f1 q hq) (fun s hs0 => by rw [up_at, if_neg (by omega)]; exact f2 s hs0) (by rw [up_at, if_pos rfl]; rfl)
      · intro g2 t1 t2 t3
        refine r_X12_orders_30 ?_
        rw [e135 g2 t1, hm]
        refine ⟨⟨by omega, by omega⟩, ⟨by omega, by omega⟩, fun _ => ?_, fun h => absurd h (by omega)⟩
        refine ih g2 t1 fun s hs0 => ?_
        by_cases e : s = k + 1
        · subst e; rw [t3]; exact (if_pos rfl).symm
        · rw [t2 s (by omega), wy_stay _ _ _ (by omega)]
      · intro c hc ihc g2 t1 t2 t3
        have hst : sm (wtm (g 135) n (wy (g 135) n m k) (k + 1)) (c + 1) = sm (wtm (g 135) n (wy (g 135) n m k) (k + 1)) c + wtm (g 135) n (wy (g 135) n m k) (k + 1) c := rfl
        refine r_X12_orders_30 ?_
        rw [e135 g2 t1, hm]
        refine ⟨⟨by omega, by omega⟩, ⟨by omega, by omega⟩, fun h => absurd h (by omega), fun _ => ?_⟩
        refine s_X12_has (by omega) (by omega) (by omega) (by omega) fun r er r0 r1 => ⟨⟨by omega, by omega⟩, fun h => ?_, fun h => ⟨by omega, by omega, ?_⟩⟩
        · rw [show ((c : Int)).toNat = c from rfl] at er
          have hw : wtm (g 135) n (wy (g 135) n m k) (k + 1) c = 0 := if_neg (fun x => by have := x.1; rw [show ((k + 1 : Nat) : Int) = (k : Int) + 1 by omega] at this; omega)
          rw [hw, Int.add_zero] at hst
          exact ihc g2 t1 t2 (by rw [hst]; exact t3)
        · rw [show ((c : Int)).toNat = c from rfl] at er ⊢
          have eb : bt ((k + 1 : Nat) : Int) c = 1 := by rw [show ((k + 1 : Nat) : Int) = (k : Int) + 1 by omega]; omega
          have hcl := clr_dec (k + 1) (by omega) c (by omega)
          have hle := clr_le (k + 1) (by omega) c (by omega) eb
          rw [if_pos eb] at hcl
          rw [show (k : Int) + 1 = ((k + 1 : Nat) : Int) by omega, hcl]
          obtain ⟨o, ho⟩ := Int.eq_ofNat_of_zero_le (show 0 ≤ ((k + 1 : Nat) : Int) - 2 ^ c by omega)
          rw [ho]
          have e9 := e135 g2 t1
          have hwt : wtm (g 135) n (wy (g 135) n m k) (k + 1) c = if cnF (g 135) c (o : Int) n = 1 then wy (g 135) n m k o else 0 := by
            unfold wtm
            rw [ho]
            by_cases h1 : cnF (g 135) c (o : Int) n = 1
            · rw [if_pos ⟨eb, h1⟩, if_pos h1]; rfl
            · rw [if_neg (fun x => h1 x.2), if_neg h1]
          refine s_X12_canCome (n := n) (by omega) (by rw [e9]; exact hn) (by omega) (by omega) (by rw [e9]; exact ha) ?_
          rw [e9]
          have hcb := cnF_b (g 135) c (o : Int) n
          refine ⟨⟨by omega, by omega⟩, fun h1 => ?_, fun h1 => ⟨by omega, by omega, by omega, by omega, ?_⟩⟩
          · rw [hwt, if_neg (by omega), Int.add_zero] at hst
            exact ihc g2 t1 t2 (by rw [hst]; exact t3)
          · rw [hwt, if_pos (by omega)] at hst
            refine ihc _ (fun q hq => by rw [up_off hq]; exact t1 q hq) (fun s hs0 => by rw [up_at, if_neg (by omega)]; exact t2 s hs0) ?_
            rw [up_at, show (((k + 1 : Nat) : Int)).toNat = k + 1 from rfl, if_pos rfl, hst, show ((o : Int)).toNat = o from rfl, t3, t2 o (by omega)]
  refine mkI (ls := [some (vR 1)]) rfl rfl rfl rfl rfl (r_X11_orders_0 ?_)
  have hS : ∀ g', (∀ q, q ≠ 126 → q ≠ 127 → g' q = g q) → ClScr g g' := fun g' h q hq => h q (by omega) (by omega)
  refine mkI (ls := [some (vR 122), none, none, none, none]) rfl rfl rfl rfl rfl (r_X4_howManyOrders_0 ?_)
  rw [em.1]
  refine s_X11_within ⟨by omega, by omega⟩ ⟨by decide, by decide⟩ ⟨by decide, by decide⟩ (by decide) fun r er => ⟨by omega, by omega, ?_⟩
  obtain rfl : r = ((m : Nat) : Int) := by omega
  rw [e2]
  refine loop (P := fun c => ∀ g', (∀ q, q ≠ 126 → q ≠ 127 → g' q = g q) → (∀ j : Nat, j < c → g' 126 j = 0) → rI 198 m_X4_howManyOrders 18 [some (vR 122), some (vI (((N + 1 : Nat) : Int))), some (vI ((c : Int))), none, none] [] dd sh (g') (fun r1 g2 => cI 200 m_X12_orders [vR 134] dd sh g2 (fun r' g3 => r1 = r' ∧ i32 r1 ∧ Inv dd sh g3))) (n := 7) ?_ ?_ 0 (by omega) g (fun _ _ _ => rfl) (fun j hj => absurd hj (by omega))
  · intro g1 f1 f2
    refine r_X4_howManyOrders_18 ⟨⟨by decide, by decide⟩, fun _ => ?_, fun h => absurd h (by decide)⟩
    refine loop (P := fun k => ∀ g', (∀ q, q ≠ 126 → q ≠ 127 → g' q = g q) → (∀ c : Nat, c < 7 → g' 126 c = mbF (g 135) c k) → rI 198 m_X4_howManyOrders 39 [some (vR 122), some (vI (((N + 1 : Nat) : Int))), some (vI ((k : Int))), none, none] [] dd sh (g') (fun r1 g2 => cI 200 m_X12_orders [vR 134] dd sh g2 (fun r' g3 => r1 = r' ∧ i32 r1 ∧ Inv dd sh g3))) (n := n) ?_ ?_ 0 (by omega) g1 f1 f2
    · intro g2 t1 t2
      refine r_X4_howManyOrders_39 ?_
      rw [t1 14 (by decide) (by decide)]
      refine ⟨⟨by omega, by omega⟩, ⟨by omega, by omega⟩, fun _ => ?_, fun h => absurd h (by omega)⟩
      refine loop (P := fun k => ∀ g', (∀ q, q ≠ 126 → q ≠ 127 → g' q = g q) → (∀ c : Nat, c < 7 → g' 126 c = mbF (g 135) c n) → (∀ s, s ≤ k → g' 127 s = wy (g 135) n m k s) → rI 198 m_X4_howManyOrders 103 [some (vR 122), some (vI (((N + 1 : Nat) : Int))), some (vI (((k : Int) + 1))), none, none] [] dd sh (g') (fun r1 g2 => cI 200 m_X12_orders [vR 134] dd sh g2 (fun r' g3 => r1 = r' ∧ i32 r1 ∧ Inv dd sh g3))) (n := N) ?_ ?_ 0 (by omega) (up g2 127 0 1) (fun q q1 q2 => by rw [up_off q2]; exact t1 q q1 q2) (fun c hc => by rw [up_off (by decide)]; exact t2 c hc) (fun s hs0 => (by have e : s = 0 := Nat.le_zero.mp hs0; subst e; show (up g2 127 0 1) 127 0 = 1; rw [up_at, if_pos rfl]))
      · intro g3 u1 u2 u3
        have hk := ref g3 (hS g3 u1)
        have h0 : ∀ P : Prop, (0 ≤ ((N + 1 : Nat) : Int) - 1 ∧ ((N + 1 : Nat) : Int) - 1 < 128 ∧ cI 200 m_X12_orders [vR 134] dd sh g3 (fun r' g3_1 => g3 127 ((((N + 1 : Nat) : Int) - 1).toNat) = r' ∧ i32 (g3 127 ((((N + 1 : Nat) : Int) - 1).toNat)) ∧ Inv dd sh g3_1)) := fun _ => by
          rw [show (((N + 1 : Nat) : Int) - 1).toNat = N by omega, u3 N (Nat.le_refl _)]
          exact ⟨by omega, by omega, hk⟩
        exact r_X4_howManyOrders_103 ⟨⟨by omega, by omega⟩, ⟨by omega, by omega⟩, fun _ => h0 True, fun h => absurd h (by omega)⟩
      · intro k hk ih g3 u1 u2 u3
        refine r_X4_howManyOrders_103 ⟨⟨by omega, by omega⟩, ⟨by omega, by omega⟩, fun h => absurd h (by omega), fun _ => ⟨fun h => absurd h (by omega), fun _ => ⟨by omega, by omega, ?_⟩⟩⟩
        rw [show ((k : Int) + 1).toNat = k + 1 by omega]
        refine loop (P := fun c => ∀ g', (∀ q, q ≠ 126 → q ≠ 127 → g' q = g q) → (∀ c : Nat, c < 7 → g' 126 c = mbF (g 135) c n) → (∀ s, s ≤ k → g' 127 s = wy (g 135) n m k s) → g' 127 (k + 1) = sm (wtm (g 135) n (wy (g 135) n m k) (k + 1)) c → rI 198 m_X4_howManyOrders 126 [some (vR 122), some (vI (((N + 1 : Nat) : Int))), some (vI (((k : Int) + 1))), some (vI ((c : Int))), none] [] dd sh (g') (fun r1 g2 => cI 200 m_X12_orders [vR 134] dd sh g2 (fun r' g3 => r1 = r' ∧ i32 r1 ∧ Inv dd sh g3))) (n := 7) ?_ ?_ 0 (by omega) _ (fun q q1 q2 => by rw [up_off q2]; exact u1 q q1 q2) (fun c hc => by rw [up_off (by decide)]; exact u2 c hc) (fun s hs0 => by rw [up_at, if_neg (by omega)]; exact u3 s hs0) (by rw [up_at, if_pos rfl]; rfl)
        · intro g4 w1 w2 w3 w4
          refine r_X4_howManyOrders_126 ⟨⟨by decide, by decide⟩, fun _ => ?_, fun h => absurd h (by decide)⟩
          refine ih g4 w1 w2 fun s hs0 => ?_
          by_cases e : s = k + 1
          · subst e
            rw [w4]
            have h7 : sm (wtm (g 135) n (wy (g 135) n m k) (k + 1)) 7 = sm (wtm (g 135) n (wy (g 135) n m k) (k + 1)) m := sm_zero (by omega) fun c hc1 hc2 => if_neg (fun x => by
              have := bt_zero (x := ((k + 1 : Nat) : Int)) (q := m) (p := c) (by omega) (by rw [← two_pow_cast, ← hN]; omega) hc1
              have := x.1
              omega)
            rw [h7]
            exact (if_pos rfl).symm
          · rw [w3 s (by omega), wy_stay _ _ _ (by omega)]
        · intro c hc ihc g4 w1 w2 w3 w4
          have hst : sm (wtm (g 135) n (wy (g 135) n m k) (k + 1)) (c + 1) = sm (wtm (g 135) n (wy (g 135) n m k) (k + 1)) c + wtm (g 135) n (wy (g 135) n m k) (k + 1) c := rfl
          refine r_X4_howManyOrders_126 ?_
          have hcl := clr_dec (k + 1) (by omega) c (by omega)
          have hbt := bt01 ((k + 1 : Nat) : Int) c
          rw [show ((c : Int)).toNat = c from rfl, show (k : Int) + 1 = ((k + 1 : Nat) : Int) by omega, hcl, w2 c hc]
          by_cases eb : bt ((k + 1 : Nat) : Int) c = 1
          · have hle := clr_le (k + 1) (by omega) c (by omega) eb
            rw [if_pos eb]
            obtain ⟨o, ho⟩ := Int.eq_ofNat_of_zero_le (show 0 ≤ ((k + 1 : Nat) : Int) - 2 ^ c by omega)
            rw [ho]
            have hsub := mbF_sub ha1 c (o := (o : Int)) (by omega)
            have hwt : wtm (g 135) n (wy (g 135) n m k) (k + 1) c = if cnF (g 135) c (o : Int) n = 1 then wy (g 135) n m k o else 0 := by
              unfold wtm
              rw [ho]
              by_cases h1 : cnF (g 135) c (o : Int) n = 1
              · rw [if_pos ⟨eb, h1⟩, if_pos h1]; rfl
              · rw [if_neg (fun x => h1 x.2), if_neg h1]
            have hia : i32 (iand (mbF (g 135) c n) (ixor (o : Int) (-1))) := iand32
            refine ⟨⟨by omega, by omega⟩, fun h => absurd h (by omega), fun _ => ⟨by omega, by omega, ⟨by omega, by omega⟩, ⟨by omega, by omega⟩, fun h => absurd h (by omega), fun _ => ⟨by omega, hia, fun h1 => ?_, fun h1 => ⟨by omega, by omega, by omega, by omega, ?_⟩⟩⟩⟩
            · rw [hwt, if_neg (fun x => h1 (hsub.mpr x)), Int.add_zero] at hst
              exact ihc g4 w1 w2 w3 (by rw [hst]; exact w4)
            · rw [hwt, if_pos (hsub.mp h1)] at hst
              refine ihc _ (fun q q1 q2 => by rw [up_off q2]; exact w1 q q1 q2) (fun c hc => by rw [up_off (by decide)]; exact w2 c hc) (fun s hs0 => by rw [up_at, if_neg (by omega)]; exact w3 s hs0) ?_
              rw [up_at, show (((k + 1 : Nat) : Int)).toNat = k + 1 from rfl, if_pos rfl, hst, show ((o : Int)).toNat = o from rfl, w4, w3 o (by omega)]
          · rw [if_neg eb]
            have hwt : wtm (g 135) n (wy (g 135) n m k) (k + 1) c = 0 := if_neg (fun x => eb x.1)
            rw [hwt, Int.add_zero] at hst
            refine ⟨⟨by omega, by omega⟩, fun h => absurd h (by omega), fun _ => ⟨by omega, by omega, ⟨by omega, by omega⟩, ⟨by omega, by omega⟩, fun _ => ?_, fun h => absurd rfl h⟩⟩
            exact ihc g4 w1 w2 w3 (by rw [hst]; exact w4)
    · intro k hk ih g2 t1 t2
      have l1 := hI.nn.l1 k (by omega)
      have hak := ha k hk
      have hv : ∀ g' : Nat → Nat → Int, (∀ q, q ≠ 126 → q ≠ 127 → g' q = g q) → g' 17 k = (g 135 (110 + 2 * k) * 16 + g 135 (111 + 2 * k)) * 16 + 0 := fun g' h => by rw [h 17 (by decide) (by decide), l1.1]; omega
      refine r_X4_howManyOrders_39 ?_
      rw [t1 14 (by decide) (by decide)]
      refine ⟨⟨by omega, by omega⟩, ⟨by omega, by omega⟩, fun h => absurd h (by omega), fun _ => ?_⟩
      refine s_other1 (by omega) (hv g2 t1) (by omega) (by omega) (by omega) ⟨⟨by omega, by omega⟩, fun h => absurd h (by omega), fun _ => ⟨by omega, by omega, ?_⟩⟩
      refine s_one1 (by omega) (hv g2 t1) (by omega) (by omega) (by omega) ⟨by omega, by omega, ?_⟩
      refine ih _ (fun q q1 q2 => by rw [up_off q1]; exact t1 q q1 q2) (fun c hc => ?_)
      rw [up_at]
      unfold mbF
      by_cases e : c = (g 135 (111 + 2 * k)).toNat
      · rw [if_pos e, if_pos (by omega), ← e, t2 c hc]
      · rw [if_neg e, if_neg (by omega)]; exact t2 c hc
  · intro c hc ih g1 f1 f2
    refine r_X4_howManyOrders_18 ⟨⟨by omega, by omega⟩, fun h => absurd h (by omega), fun _ => ⟨by omega, by omega, ?_⟩⟩
    refine ih _ (fun q q1 q2 => by rw [up_off q1]; exact f1 q q1 q2) (fun j hj => ?_)
    rw [show ((c : Int)).toNat = c from rfl, up_at]
    by_cases e : j = c
    · rw [if_pos e]
    · rw [if_neg e]; exact f2 j (by omega)
