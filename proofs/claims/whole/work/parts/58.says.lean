-- what laws say
theorem T_row : ∀ (dd : List (Nat × Nat)) (j n c : Nat), dd[j]? = some (n, c) → (dyn dd)[7 * j]? = some (19, 7) ∧ (dyn dd)[7 * j + 1]? = some (0, 3) ∧ (dyn dd)[7 * j + 2]? = some (0, 3) ∧ (dyn dd)[7 * j + 3]? = some (0, n) ∧ (dyn dd)[7 * j + 4]? = some (0, c) ∧ (dyn dd)[7 * j + 5]? = some (0, c) ∧ (dyn dd)[7 * j + 6]? = some (0, c) := by
  intro dd
  induction dd with
  | nil => intro j n c h; exact absurd h (by simp)
  | cons a r ih =>
    obtain ⟨n0, c0⟩ := a
    intro j n c h
    cases j with
    | zero =>
      have e : (n0, c0) = (n, c) := by simpa using h
      cases e
      exact ⟨rfl, rfl, rfl, rfl, rfl, rfl, rfl⟩
    | succ j =>
      have h2 : r[j]? = some (n, c) := by simpa using h
      obtain ⟨a0, a1, a2, a3, a4, a5, a6⟩ := ih j n c h2
      exact ⟨a0, a1, a2, a3, a4, a5, a6⟩
theorem T_at7 {dd : List (Nat × Nat)} {j n c : Nat} (h : dd[j]? = some (n, c)) : (T0 ++ dyn dd)[149 + 7 * j]? = some (19, 7) ∧ (T0 ++ dyn dd)[149 + 7 * j + 1]? = some (0, 3) ∧ (T0 ++ dyn dd)[149 + 7 * j + 2]? = some (0, 3) ∧ (T0 ++ dyn dd)[149 + 7 * j + 3]? = some (0, n) ∧ (T0 ++ dyn dd)[149 + 7 * j + 4]? = some (0, c) ∧ (T0 ++ dyn dd)[149 + 7 * j + 5]? = some (0, c) ∧ (T0 ++ dyn dd)[149 + 7 * j + 6]? = some (0, c) := by
  obtain ⟨a0, a1, a2, a3, a4, a5, a6⟩ := T_row dd j n c h
  have ap : ∀ i, (T0 ++ dyn dd)[149 + 7 * j + i]? = (dyn dd)[7 * j + i]? := fun i => by
    rw [List.getElem?_append_right (by rw [T0_len]; omega), T0_len, show 149 + 7 * j + i - 149 = 7 * j + i by omega]
  exact ⟨(ap 0).trans a0, (ap 1).trans a1, (ap 2).trans a2, (ap 3).trans a3, (ap 4).trans a4, (ap 5).trans a5, (ap 6).trans a6⟩
theorem rho_t (sh : Nat → Nat → Nat) (j : Nat) : rho sh (149 + 7 * j) 0 = 149 + 7 * j + 3 ∧ rho sh (149 + 7 * j) 1 = 149 + 7 * j + 1 ∧ rho sh (149 + 7 * j) 2 = 149 + 7 * j + 2 ∧ rho sh (149 + 7 * j) 4 = 149 + 7 * j + 4 ∧ rho sh (149 + 7 * j) 5 = 149 + 7 * j + 5 ∧ rho sh (149 + 7 * j) 6 = 149 + 7 * j + 6 := by
  have e : ∀ i, rho sh (149 + 7 * j) i = Rd (149 + 7 * j) i := fun i => by unfold rho; rw [if_neg (by omega), if_neg (by omega), if_neg (by omega)]
  have e0 : (149 + 7 * j - 149) % 7 = 0 := by omega
  rw [e, e, e, e, e, e]
  unfold Rd
  rw [e0]
  exact ⟨rfl, rfl, rfl, rfl, rfl, rfl⟩
/-- a law's value at the first clause of sort w from clause k on, n clauses ahead -/
noncomputable def lawF (x : Nat) (T : Nat → Int) (w : Nat) (nm : Nat → Int) (wo top : Int) : Nat → Nat → Int
  | 0, _ => wo
  | n + 1, k => if T (x + 1 + 3 * k) = w then min (max (evX (fun i => T (x + 73 + 2 * i)) (fun i => T (x + 74 + 2 * i)) (w == 2) (T (x + 2 + 3 * k)).toNat (T (x + 3 + 3 * k)).toNat nm) 0) top else lawF x T w nm wo top n (k + 1)
noncomputable def lawV (T : Nat → Int) (t : Int) (w : Nat) (nm : Nat → Int) (wo top : Int) : Int := if t < 0 then wo else lawF (681 * t.toNat) T w nm wo top (T (681 * t.toNat)).toNat 0
theorem lawF_no {x : Nat} {T : Nat → Int} {w : Nat} {nm : Nat → Int} {wo top : Int} : ∀ n k, (∀ i, k ≤ i → i < k + n → T (x + 1 + 3 * i) ≠ w) → lawF x T w nm wo top n k = wo := by
  intro n
  induction n with
  | zero => intro k _; rfl
  | succ n ih =>
    intro k h
    show (if T (x + 1 + 3 * k) = w then _ else lawF x T w nm wo top n (k + 1)) = wo
    rw [if_neg (h k (by omega) (by omega))]
    exact ih (k + 1) (fun i h1 h2 => h i (by omega) (by omega))
theorem lawF_at {x : Nat} {T : Nat → Int} {w : Nat} {nm : Nat → Int} {wo top : Int} : ∀ m n k, m < n → (∀ i, k ≤ i → i < k + m → T (x + 1 + 3 * i) ≠ w) → T (x + 1 + 3 * (k + m)) = w → lawF x T w nm wo top n k = min (max (evX (fun i => T (x + 73 + 2 * i)) (fun i => T (x + 74 + 2 * i)) (w == 2) (T (x + 2 + 3 * (k + m))).toNat (T (x + 3 + 3 * (k + m))).toNat nm) 0) top := by
  intro m
  induction m with
  | zero =>
    intro n k h _ h2
    cases n with
    | zero => omega
    | succ n =>
      show (if T (x + 1 + 3 * k) = w then _ else lawF x T w nm wo top n (k + 1)) = _
      have h2' : T (x + 1 + 3 * k) = w := h2
      rw [if_pos h2']
      rfl
  | succ m ih =>
    intro n k h h1 h2
    cases n with
    | zero => omega
    | succ n =>
      show (if T (x + 1 + 3 * k) = w then _ else lawF x T w nm wo top n (k + 1)) = _
      rw [if_neg (h1 k (by omega) (by omega)), ih n (k + 1) (by omega) (fun i a b => h1 i (by omega) (by omega)) (by rw [show k + 1 + m = k + (m + 1) by omega]; exact h2), show k + 1 + m = k + (m + 1) by omega]
theorem LawOk.ca {g : Nat → Nat → Int} {T : Nat → Int} {q n c t w : Nat} (h : LawOk g T q n c t w) (hc : T (681 * t) = c) :
  (g (q + 1) w = 0 ∧ g (q + 2) w = 0 ∧ (∀ k : Nat, k < c → T (681 * t + 1 + 3 * k) ≠ w) ∧ ∀ nm wo top, lawV T (t : Int) w nm wo top = wo) ∨
  ∃ k lo hi : Nat, k < c ∧ T (681 * t + 1 + 3 * k) = w ∧ (∀ k' : Nat, k' < k → T (681 * t + 1 + 3 * k') ≠ w) ∧ g (q + 1) w = lo ∧ g (q + 2) w = hi ∧ T (681 * t + 2 + 3 * k) = lo ∧ T (681 * t + 3 + 3 * k) = hi ∧
    lo < hi ∧ hi ≤ n ∧ (∀ i : Nat, lo ≤ i → i < hi → g (q + 3) i = deedOf (T (681 * t + 73 + 2 * i)) * 10000 + T (681 * t + 74 + 2 * i) ∧ (2 < T (681 * t + 73 + 2 * i) → T (681 * t + 74 + 2 * i) = 0)) ∧
    EvSeg (fun i => T (681 * t + 73 + 2 * i)) (fun i => T (681 * t + 74 + 2 * i)) (w == 2) false lo hi 30 ∧
    ∀ nm wo top, lawV T (t : Int) w nm wo top = min (max (evX (fun i => T (681 * t + 73 + 2 * i)) (fun i => T (681 * t + 74 + 2 * i)) (w == 2) lo hi nm) 0) top := by
  rcases h with ⟨h1, h2, h3⟩ | ⟨k, lo, hi, h1, h2, h3, h4, h5, h6, h7, h8, h9, h10, h11⟩
  · refine Or.inl ⟨h1, h2, h3, fun nm wo top => ?_⟩
    unfold lawV
    rw [if_neg (by omega), show ((t : Int)).toNat = t from rfl, hc]
    exact lawF_no _ _ (fun i _ hi => h3 i (by omega))
  · refine Or.inr ⟨k, lo, hi, h1, h2, h3, h4, h5, h6, h7, h8, h9, h10, h11, fun nm wo top => ?_⟩
    unfold lawV
    rw [if_neg (by omega), show ((t : Int)).toNat = t from rfl, hc, lawF_at k _ 0 (by omega) (fun i _ hi => h3 i (by omega)) (by rw [Nat.zero_add]; exact h2), Nat.zero_add, h6, h7]
    rfl
theorem evX_b {o v : Nat → Int} {pays : Bool} {lo hi : Nat} (h : EvSeg o v pays false lo hi 30) (hlo : lo ≤ 1000) {nm : Nat → Int} (hnm : ∀ j, j < 8 → (pays = true → j < 5) → 0 ≤ nm j ∧ nm j ≤ 9999) : -1000000 ≤ evX o v pays lo hi nm ∧ evX o v pays lo hi nm ≤ 1000000 := by
  obtain ⟨X, hX, hE⟩ := evX_spec h
  obtain ⟨k, ag', vals', times', tot', i8', hk, hr, _, hv, _, hok, _⟩ := hX.2.2 nm hnm 0 lo (fun _ => 0) 0 0 0 (by omega) hlo ⟨fun j hj => absurd hj (by omega), by omega, by omega⟩ (fun h => absurd h (by decide))
  rw [hE, ← hv]
  exact hok.1 0 (by omega)
def LF1 (g g' : Nat → Nat → Int) : Prop := ∀ q, q ≠ 116 → q ≠ 117 → g' q = g q
def RF1 (g g' : Nat → Nat → Int) : Prop := ∀ q, q ≠ 140 → q ≠ 141 → g' q = g q
theorem LF1.scr {g g' : Nat → Nat → Int} (h : LF1 g g') : ClScr g g' := fun q hq => h q (by omega) (by omega)
theorem RF1.scr {g g' : Nat → Nat → Int} (h : RF1 g g') : RefScr g g' := ⟨fun q hq => h q (by omega) (by omega), fun k _ => by rw [h 134 (by omega) (by omega)]⟩
theorem s_X2_run {d : Nat} {dd : List (Nat × Nat)} {sh : Nat → Nat → Nat} {g : Nat → Nat → Int} {K : Int → (Nat → Nat → Int) → Prop} {j n c w lo hi : Nat} {o v nm : Nat → Int} {pays : Bool} (hj : dd[j]? = some (n, c)) (hn : n ≤ 300) (hw : w < 3) (e1 : g (149 + 7 * j + 1) w = lo) (e2 : g (149 + 7 * j + 2) w = hi) (hhi : hi ≤ n) (hlh : lo < hi)
    (hcode : ∀ i : Nat, lo ≤ i → i < hi → g (149 + 7 * j + 3) i = deedOf (o i) * 10000 + v i ∧ (2 < o i → v i = 0)) (hseg : EvSeg o v pays false lo hi 30)
    (hnm : ∀ j, j < 8 → (pays = true → j < 5) → 0 ≤ nm j ∧ nm j ≤ 9999) (hg : ∀ j, j < 8 → (pays = true → j < 5) → g 116 j = nm j) (hK : ∀ g', LF1 g g' → K (evX o v pays lo hi nm) g') : cI (d + 2) m_X2_run [(vR 115), (vR (149 + 7 * j)), (vI (w : Int))] dd sh g K := by
  obtain ⟨X, hX, hE⟩ := evX_spec hseg
  have hnm2 : ∃ nm2 : Nat → Int, (∀ j, j < 8 → g 116 j = nm2 j) ∧ (∀ j, j < 8 → (pays = true → j < 5) → 0 ≤ nm2 j ∧ nm2 j ≤ 9999) ∧ ∀ i8, X nm2 i8 = X nm 0 := by
    refine ⟨fun j => if j < 8 then g 116 j else nm j, fun j hj => (if_pos hj).symm, fun j hj hp => ?_, fun i8 => ?_⟩
    · show 0 ≤ (if j < 8 then g 116 j else nm j) ∧ (if j < 8 then g 116 j else nm j) ≤ 9999
      rw [if_pos hj, hg j hj hp]; exact hnm j hj hp
    · rw [hX.2.1 rfl _ i8 0]
      cases hp : pays with
      | true => exact hX.1 hp _ _ 0 (fun j hj => by rw [if_pos (by omega), hg j (by omega) (fun _ => hj)])
      | false =>
        congr 1
        funext j
        by_cases h8 : j < 8
        · rw [if_pos h8, hg j h8 (fun h => absurd (h.symm.trans hp) (by decide))]
        · rw [if_neg h8]
  obtain ⟨nm2, q1, q2, q3⟩ := hnm2
  obtain ⟨k, ag', vals', times', tot', i8', hk, hr, _, hv, _, hok, _⟩ := hX.2.2 nm2 q2 0 lo (fun j => g 117 j) 0 0 (g 116 8) (by omega) (by omega) ⟨fun j hj => absurd hj (by omega), by omega, by omega⟩ (fun h => absurd h (by decide))
  obtain ⟨t0, t1, t2, t3, _⟩ := T_at7 hj
  obtain ⟨r0, r1, r2, _⟩ := rho_t sh j
  have hk' : k ≤ 9 * (hi - lo) := by simpa using hk
  refine mkI (ls := [some (vR 115), some (vR (149 + 7 * j)), some (vI (w : Int)), none, none, none, none, none, none, none, none, none, none]) rfl rfl rfl rfl rfl (r_X2_run_0 ?_)
  rw [r0, r1, r2, lenT t1, lenT t2, lenT t3, show ((w : Int)).toNat = w from rfl, e1, e2]
  refine ⟨by omega, t0, arT (by omega) t1, by omega, by omega, arT (by omega) t2, by omega, arT (by omega) t3, s_J9_min ⟨by omega, by omega⟩ ⟨by omega, by omega⟩ fun r er => ?_⟩
  have er' : r = hi := by omega
  rw [er']
  refine run_sim (P := 149 + 7 * j + 3) (len := n) (gb := g) (pays := pays) (o := o) (v := v) (nm := nm2) (lo := lo) (hi := hi) (by omega) t3 hhi hn hcode q2 k (lo, 0, lo, fun j => g 117 j, 0, 0, g 116 8) _ 0 hr (by omega) (fun c' g' hc hrel => ?_) g ⟨fun _ _ _ => rfl, fun j hj => q1 j hj, rfl, fun j hj => rfl⟩
  show rI (d + 1) m_X2_run 42 [some (vR 115), none, none, some (vR (149 + 7 * j + 3)), some (vI (hi : Int)), some (vI (hi : Int)), some (vI (ag' : Int)), some (vI times'), some (vI tot'), some (vI ((0 + 1 : Nat) : Int)), some (vI (c' : Int)), none, none] [] dd sh g' K
  refine r_X2_run_42 ⟨⟨by omega, by omega⟩, fun h => absurd h (by omega), fun _ => ⟨⟨by omega, by omega⟩, fun h => absurd h (by omega), fun _ => ⟨⟨by omega, by omega⟩, fun _ => r_X2_run_336 ⟨⟨by omega, by omega⟩, fun h => absurd h (by omega), fun _ => ?_⟩, fun h => absurd h (by omega)⟩⟩⟩
  have e117 : g' 117 0 = vals' 0 := hrel.2.2.2 0 (by show 0 < 0 + 1; omega)
  rw [e117, hv, q3, ← hE]
  exact hK g' hrel.1
theorem s_X12_worked {d : Nat} {dd : List (Nat × Nat)} {sh : Nat → Nat → Nat} {g : Nat → Nat → Int} {K : Int → (Nat → Nat → Int) → Prop} {t k lo hi : Nat} {nm : Nat → Int} {pays : Bool} (ht : t < 4) (hk : k < 24) (e1 : g 137 (681 * t + 2 + 3 * k) = lo) (e2 : g 137 (681 * t + 3 + 3 * k) = hi) (hhi : hi ≤ 300) (hlh : lo < hi)
    (hseg : EvSeg (fun i => g 137 (681 * t + 73 + 2 * i)) (fun i => g 137 (681 * t + 74 + 2 * i)) pays false lo hi 30)
    (hnm : ∀ j, j < 8 → (pays = true → j < 5) → 0 ≤ nm j ∧ nm j ≤ 9999) (hg : ∀ j, j < 8 → (pays = true → j < 5) → g 140 j = nm j) (hK : ∀ g', RF1 g g' → K (evX (fun i => g 137 (681 * t + 73 + 2 * i)) (fun i => g 137 (681 * t + 74 + 2 * i)) pays lo hi nm) g') : cL (d + 3) m_X12_worked [(vR 134), (vI (t : Int)), (vI (k : Int))] dd sh g K := by
  obtain ⟨X, hX, hE⟩ := evX_spec hseg
  have hnm2 : ∃ nm2 : Nat → Int, (∀ j, j < 8 → g 140 j = nm2 j) ∧ (∀ j, j < 8 → (pays = true → j < 5) → 0 ≤ nm2 j ∧ nm2 j ≤ 9999) ∧ ∀ i8, X nm2 i8 = X nm 0 := by
    refine ⟨fun j => if j < 8 then g 140 j else nm j, fun j hj => (if_pos hj).symm, fun j hj hp => ?_, fun i8 => ?_⟩
    · show 0 ≤ (if j < 8 then g 140 j else nm j) ∧ (if j < 8 then g 140 j else nm j) ≤ 9999
      rw [if_pos hj, hg j hj hp]; exact hnm j hj hp
    · rw [hX.2.1 rfl _ i8 0]
      cases hp : pays with
      | true => exact hX.1 hp _ _ 0 (fun j hj => by rw [if_pos (by omega), hg j (by omega) (fun _ => hj)])
      | false =>
        congr 1
        funext j
        by_cases h8 : j < 8
        · rw [if_pos h8, hg j h8 (fun h => absurd (h.symm.trans hp) (by decide))]
        · rw [if_neg h8]
  obtain ⟨nm2, q1, q2, q3⟩ := hnm2
  obtain ⟨m, ag', vals', times', tot', i8', hm, hr, _, hv, _, hok, _⟩ := hX.2.2 nm2 q2 0 1 (fun j => g 141 j) 0 0 (g 140 8) (by omega) (by omega) ⟨fun j hj => absurd hj (by omega), by omega, by omega⟩ (fun h => absurd h (by decide))
  refine mkL (ls := [some (vR 134), some (vI (t : Int)), some (vI (k : Int)), none, none, none, none, none, none, none, none, none, none]) rfl rfl rfl rfl rfl (r_X12_worked_0 ?_)
  rw [show ((681 * (t : Int) + 1) + 3 * (k : Int) + 1).toNat = 681 * t + 2 + 3 * k by omega, e1, show ((681 * (t : Int) + 1) + 3 * (k : Int)) = ((681 * t + 1 + 3 * k : Nat) : Int) by omega, show (681 * (t : Int) + 73) = ((681 * t + 73 : Nat) : Int) by omega]
  refine ⟨by omega, by omega, ?_⟩
  refine wrk_sim (x := 681 * t + 1 + 3 * k) (cd := 681 * t + 73) (gb := g) (pays := pays) (nm := nm2) (lo := lo) (hi := hi) (o := fun i => g 137 (681 * t + 73 + 2 * i)) (v := fun i => g 137 (681 * t + 74 + 2 * i)) (by omega) (by omega) (by rw [show 681 * t + 1 + 3 * k + 2 = 681 * t + 3 + 3 * k by omega]; exact e2) (by omega) (fun i _ _ => ⟨rfl, by rw [show 681 * t + 73 + 2 * i + 1 = 681 * t + 74 + 2 * i by omega]⟩) q2 m (lo, 0, 1, fun j => g 141 j, 0, 0, g 140 8) _ hr (fun g' hrel => ?_) g ⟨fun _ _ _ => rfl, fun j hj => q1 j hj, rfl, fun j hj => rfl⟩
  have e137 : g' 137 = g 137 := hrel.1 137 (by decide) (by decide)
  show rL (d + 2) m_X12_worked 44 [some (vR 134), none, none, some (vI ((681 * t + 1 + 3 * k : Nat) : Int)), some (vI ((681 * t + 73 : Nat) : Int)), some (vI ((0 + 1 : Nat) : Int)), some (vI ((ag' : Int) - 1)), some (vI times'), some (vL tot'), none, some (vI (hi : Int)), none, none] [] dd sh g' K
  refine r_X12_worked_44 ?_
  rw [e137, show (((681 * t + 1 + 3 * k : Nat) : Int) + 2).toNat = 681 * t + 3 + 3 * k by omega, e2]
  refine ⟨by omega, by omega, ⟨by omega, by omega⟩, ⟨by omega, by omega⟩, fun _ => ?_, fun h => absurd h (by omega)⟩
  have e141 : g' 141 0 = vals' 0 := hrel.2.2.2 0 (by show 0 < 0 + 1; omega)
  rw [e141, hv, q3, ← hE]
  exact hK g' hrel.1
theorem s_X12_says {d : Nat} {dd : List (Nat × Nat)} {sh : Nat → Nat → Nat} {g : Nat → Nat → Int} {K : Int → (Nat → Nat → Int) → Prop} {t wo top : Int} {w : Nat} {nm : Nat → Int} (ht : t < 0 ∨ (0 ≤ t ∧ t < 4 ∧ ∃ q, TextOk dd q g (g 137) t.toNat)) (hti : i32 t) (hw : w < 3) (hto : 0 ≤ top) (htop : i32 top)
    (hnm : ∀ j, j < 8 → ((w == 2) = true → j < 5) → 0 ≤ nm j ∧ nm j ≤ 9999) (hg : ∀ j, j < 8 → ((w == 2) = true → j < 5) → g 140 j = nm j) (hK : ∀ g', RF1 g g' → K (lawV (g 137) t w nm wo top) g') : cI (d + 4) m_X12_says [(vR 134), (vI t), (vI (w : Int)), (vI wo), (vI top)] dd sh g K := by
  refine mkI (ls := [some (vR 134), some (vI t), some (vI (w : Int)), some (vI wo), some (vI top), none]) rfl rfl rfl rfl rfl (r_X12_says_0 ?_)
  rcases ht with h0 | ⟨h0, h4, q, j, n, c, h1, h2, h3, h4', h5, h6, h7, h8⟩
  · have e : lawV (g 137) t w nm wo top = wo := by unfold lawV; rw [if_pos h0]
    rw [e] at hK
    exact r_X12_says_3 ⟨hti, fun _ => hK g (fun _ _ _ => rfl), fun h => absurd h (by omega)⟩
  · obtain ⟨t, rfl⟩ : ∃ n : Nat, t = n := ⟨t.toNat, by omega⟩
    rw [show ((t : Int)).toNat = t from rfl] at h6 h7 h8
    have hl := (h8 w hw).ca h6
    have kb : ∀ k : Nat, k < c → i32 (g 137 (681 * t + 1 + 3 * k)) := fun k hk => by
      have := h7 k hk
      unfold ClOk at this
      exact ⟨by omega, by omega⟩
    have skip : ∀ m : Nat, m ≤ c → (∀ k : Nat, k < m → g 137 (681 * t + 1 + 3 * k) ≠ w) → rI (d + 3) m_X12_says 3 [some (vR 134), some (vI ((t : Int))), some (vI ((w : Int))), some (vI wo), some (vI top), some (vI ((m : Int)))] [] dd sh g K → rI (d + 3) m_X12_says 3 [some (vR 134), some (vI ((t : Int))), some (vI ((w : Int))), some (vI wo), some (vI top), some (vI 0)] [] dd sh g K := by
      intro m hm hne hl
      refine loop (P := fun k => rI (d + 3) m_X12_says 3 [some (vR 134), some (vI ((t : Int))), some (vI ((w : Int))), some (vI wo), some (vI top), some (vI (((k : Nat) : Int)))] [] dd sh g K) (n := m) hl (fun k hk ih => ?_) 0 (by omega)
      have := kb k (by omega)
      have hne' := hne k hk
      refine r_X12_says_3 ?_
      rw [show (681 * (t : Int)).toNat = 681 * t by omega, h6, show (681 * (t : Int) + 1 + 3 * (k : Int)).toNat = 681 * t + 1 + 3 * k by omega]
      refine ⟨hti, fun h => absurd h (by omega), fun _ => ⟨by omega, by omega, ⟨by omega, by omega⟩, ⟨by omega, by omega⟩, fun h => absurd h (by omega), fun _ => ⟨by omega, by omega, this, ⟨by omega, by omega⟩, fun _ => ih, fun h => absurd h hne'⟩⟩⟩
    rcases hl with ⟨_, _, l3, l4⟩ | ⟨k, lo, hi, l1, l2, l3, _, _, l6, l7, l8, l9, _, l11, l12⟩
    · rw [l4] at hK
      refine skip c (by omega) l3 (r_X12_says_3 ?_)
      rw [show (681 * (t : Int)).toNat = 681 * t by omega, h6]
      exact ⟨hti, fun h => absurd h (by omega), fun _ => ⟨by omega, by omega, ⟨by omega, by omega⟩, ⟨by omega, by omega⟩, fun _ => hK g (fun _ _ _ => rfl), fun h => absurd h (by omega)⟩⟩
    · rw [l12] at hK
      refine skip k (by omega) l3 (r_X12_says_3 ?_)
      rw [show (681 * (t : Int)).toNat = 681 * t by omega, h6, show (681 * (t : Int) + 1 + 3 * (k : Int)).toNat = 681 * t + 1 + 3 * k by omega, l2]
      refine ⟨hti, fun h => absurd h (by omega), fun _ => ⟨by omega, by omega, ⟨by omega, by omega⟩, ⟨by omega, by omega⟩, fun h => absurd h (by omega), fun _ => ⟨by omega, by omega, ⟨by omega, by omega⟩, ⟨by omega, by omega⟩, fun h => absurd rfl h, fun _ => ?_⟩⟩⟩
      refine s_X12_worked (pays := (w == 2)) (nm := nm) (by omega) (by omega) l6 l7 (by omega) l8 l11 hnm hg fun g' hf => ?_
      have hb := evX_b l11 (by omega) hnm
      refine s_X12_bounded ⟨by omega, by omega⟩ ⟨by omega, by omega⟩ htop hto fun r er => ?_
      rw [er]
      exact hK g' hf
