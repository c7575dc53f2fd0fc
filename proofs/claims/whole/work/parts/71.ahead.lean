-- nights foretold
theorem foldN_rel2 {R : ST → ST → Prop} {f f' : ST → Nat → ST} {N : Nat} (hf : ∀ s s' k, k < N → R s s' → R (f s k) (f' s' k)) {s s' : ST} (h : R s s') : ∀ n, n ≤ N → R (foldN f s n) (foldN f' s' n) := by
  intro n
  induction n with
  | zero => intro _; exact h
  | succ n ih => intro hn; exact hf _ _ _ (by omega) (ih (by omega))
def RLo (a b : Nat → Int) : Prop := ∀ k, k < 2524 → k ≠ 13 → a k = b k
/-- the same but for the book -/
def RW (s s' : ST) : Prop := RLo s.1 s'.1 ∧ s.2 = s'.2
theorem RLo.bk {a b : Nat → Int} (h : RLo a b) : BK b a := fun k h1 _ h3 => h k h1 h3
theorem RLo.up {a b : Nat → Int} (h : RLo a b) (j : Nat) {v v' : Int} (e : v = v') : RLo (upR a j v) (upR b j v') := by
  intro k h1 h2
  unfold upR
  split
  · exact e
  · exact h k h1 h2
theorem g1_RW {T : Nat → Int} {c p : Nat} {s s' : ST} (h : RW s s') (hp : p < 6) (hc : c < 7) : RW (g1 true T c s p) (g1 false T c s' p) := by
  obtain ⟨h1, h2⟩ := h
  have e20 := h1 (20 + 7 * p) (by omega) (by omega)
  have e12 := h1 12 (by decide) (by decide)
  have eo : oddsA s.1 T (s.1 3) p c (s.1 (16 + 7 * p)) = oddsA s'.1 T (s'.1 3) p c (s'.1 (16 + 7 * p)) := by
    rw [oddsA_BK h1.bk hp hc, h1 3 (by decide) (by decide), h1 (16 + 7 * p) (by omega) (by omega)]
  unfold g1
  rw [e20, e12, eo, h2]
  by_cases c1 : s'.1 (20 + 7 * p) = 0
  · rw [if_pos c1, if_pos c1]; exact ⟨h1, h2⟩
  · rw [if_neg c1, if_neg c1]
    have hu := h1.up 12 (v := dr (s'.1 12)) (v' := dr (s'.1 12)) rfl
    by_cases c2 : s'.1 12 % 10 < oddsA s'.1 T (s'.1 3) p c (s'.1 (16 + 7 * p))
    · rw [if_pos c2, if_pos c2]
      refine ⟨fun k k1 k2 => ?_, rfl⟩
      show wrA true (upR s.1 12 (dr (s'.1 12))) c p k = wrA false (upR s'.1 12 (dr (s'.1 12))) c p k
      rw [wrA_low _ _ _ _ k1 k2, wrA_low _ _ _ _ k1 k2]
      exact hu k k1 k2
    · rw [if_neg c2, if_neg c2]
      exact ⟨hu, rfl⟩
theorem gA_RW {T : Nat → Int} {n m : Nat} {s s' : ST} (h : RW s s') (hn : n ≤ 6) (hm : m ≤ 7) : RW (gA true T n m s) (gA false T n m s') := by
  refine foldN_rel2 (R := RW) (N := m) (fun s s' k hk hs => ?_) h m (Nat.le_refl _)
  unfold gT
  have et : tgA s.1 k = tgA s'.1 k := by unfold tgA; rw [hs.1 (60 + 4 * k) (by omega) (by omega), hs.1 (61 + 4 * k) (by omega) (by omega)]
  rw [et]
  refine foldN_rel2 (R := RW) (f := fun s _ => gS true T n k s) (f' := fun s _ => gS false T n k s) (N := tgA s'.1 k) (fun s s' _ _ hs => ?_) hs _ (Nat.le_refl _)
  exact foldN_rel2 (R := RW) (f := g1 true T k) (f' := g1 false T k) (N := n) (fun s s' p hp hs => g1_RW hs (by omega) (by omega)) hs n (Nat.le_refl _)
theorem paF_BK {a b T : Nat → Int} (h : BK a b) {p : Nat} (hp : p < 6) : paF b T p = paF a T p := by
  unfold paF paysA
  rw [nmA_BK h hp (by decide), h 3 (by decide) (by decide) (by decide), h (18 + 7 * p) (by omega) (by omega) (by omega), h (20 + 7 * p) (by omega) (by omega) (by omega)]
theorem hbA_RLo {a b : Nat → Int} (h : RLo a b) : ∀ n, n ≤ 6 → RLo (hbA a n) (hbA b n) := by
  intro n
  induction n with
  | zero => intro _; exact h
  | succ n ih =>
    intro hn
    have h1 := ih (by omega)
    show RLo (if hbA a n (20 + 7 * n) = 1 then upR (hbA a n) (19 + 7 * n) (min (max (hbA a n (19 + 7 * n) + 1) 0) 9) else hbA a n) (if hbA b n (20 + 7 * n) = 1 then upR (hbA b n) (19 + 7 * n) (min (max (hbA b n (19 + 7 * n) + 1) 0) 9) else hbA b n)
    rw [h1 (20 + 7 * n) (by omega) (by omega), h1 (19 + 7 * n) (by omega) (by omega)]
    split
    · exact h1.up _ rfl
    · exact h1
theorem ecA_RLo {a b : Nat → Int} (h : RLo a b) : ∀ n, RLo (ecA a n) (ecA b n) := by
  intro n
  induction n with
  | zero => exact h
  | succ n ih => exact ih.up _ rfl
theorem paS_RW {T : Nat → Int} {n m : Nat} {s s' : ST} (h : RW s s') (hn : n ≤ 6) (hm : m ≤ 7) : RW (paS true T n m s) (paS false T n m s') := by
  have h1 := gA_RW (T := T) (n := n) (m := m) h hn hm
  have h2 : RLo (tkA T n (gA true T n m s).1) (tkA T n (gA false T n m s').1) := by
    unfold tkA
    rw [sm_congr (f := paF (gA true T n m s).1 T) (f' := paF (gA false T n m s').1 T) fun k hk => paF_BK h1.1.bk (by omega), h1.1 11 (by decide) (by decide)]
    exact h1.1.up _ rfl
  have h3 := ecA_RLo (hbA_RLo h2 n hn) m
  exact ⟨h3.up 10 (by rw [h3 10 (by decide) (by decide)]), h1.2⟩
noncomputable def rit (w : Bool) (T : Nat → Int) (n m : Nat) (a : Nat → Int) : Nat → ST
  | 0 => (a, 0, 0)
  | k + 1 => paS w T n m (rit w T n m a k)
theorem rit_RW {T : Nat → Int} {n m : Nat} {a : Nat → Int} (hn : n ≤ 6) (hm : m ≤ 7) : ∀ j, RW (rit true T n m a j) (rit false T n m a j) := by
  intro j
  induction j with
  | zero => exact ⟨fun _ _ _ => rfl, rfl⟩
  | succ j ih => exact paS_RW ih hn hm
theorem rit_lo {w : Bool} {T : Nat → Int} {n m : Nat} {a : Nat → Int} {k : Nat} (hn : n ≤ 6) (hm : m ≤ 7) (hk : k < 10 ∨ (14 ≤ k ∧ k < 2524)) (h19 : ∀ p, p < 6 → k ≠ 19 + 7 * p) (h61 : ∀ c, c < 7 → k ≠ 61 + 4 * c) : ∀ j, (rit w T n m a j).1 k = a k := by
  intro j
  induction j with
  | zero => rfl
  | succ j ih =>
    show (paS w T n m (rit w T n m a j)).1 k = a k
    rw [paS_off hn hm hk h19 h61]
    exact ih
theorem rit_10 {w : Bool} {T : Nat → Int} {n m : Nat} {a : Nat → Int} : ∀ j : Nat, (rit w T n m a j).1 10 = a 10 + j := by
  intro j
  induction j with
  | zero => show a 10 = a 10 + ((0 : Nat) : Int); omega
  | succ j ih =>
    show (paS w T n m (rit w T n m a j)).1 10 = _
    rw [paS_10, ih]
    omega
theorem rit_bk {T : Nat → Int} {n m : Nat} {a : Nat → Int} {k : Nat} (hn : n ≤ 6) (hm : m ≤ 7) (hk : 2524 ≤ k ∨ k = 13) : ∀ j, (rit false T n m a j).1 k = a k := by
  have h1 : ∀ c s p, s.1 k = a k → (g1 false T c s p).1 k = a k := by
    intro c s p h
    unfold g1
    split
    · exact h
    · split
      · show upR s.1 12 _ k = a k
        rw [upR_off (by omega)]; exact h
      · show upR s.1 12 _ k = a k
        rw [upR_off (by omega)]; exact h
  intro j
  induction j with
  | zero => rfl
  | succ j ih =>
    have hg : (gA false T n m (rit false T n m a j)).1 k = a k := foldN_in (P := fun s => s.1 k = a k) (fun s c hs => foldN_in (P := fun s => s.1 k = a k) (f := fun s _ => gS false T n c s) (fun s _ hs => foldN_in (P := fun s => s.1 k = a k) (fun s p hs => h1 c s p hs) hs n) hs _) ih m
    show (paS false T n m (rit false T n m a j)).1 k = a k
    unfold paS
    show upR (ecA (hbA (tkA T n (gA false T n m (rit false T n m a j)).1) n) m) 10 _ k = a k
    rw [upR_off (by omega), ecA_off m (fun c hc => by omega), hbA_off n (fun p hp => by omega)]
    unfold tkA
    rw [upR_off (by omega)]; exact hg
def RI (T : Nat → Int) (n m : Nat) (a : Nat → Int) (i : Nat) : Prop := AB (rit true T n m a i).1 ∧ 0 ≤ (rit true T n m a i).2.1 ∧ (rit true T n m a i).2.1 ≤ 84 * i
theorem s_X5_rehearse {d : Nat} {dd : List (Nat × Nat)} {sh : Nat → Nat → Nat} {g : Nat → Nat → Int} {K : Int → (Nat → Nat → Int) → Prop} {a : Nat → Int} {n m N J : Nat} (hS : RSc g a) (hH : RHc g a) (hX : RXt dd sh g a (g 137)) (hn : a 0 = n) (hm : a 1 = m) (hN : N ≤ 60) (hJ : J ≤ N) (hJ1 : a 10 + J ≤ 9999) (hJ2 : J < N → a 10 + J = 9999)
    (hK : ∀ g', NF g g' → RSc g' (rit true (g 137) n m a J).1 → (∀ i, i ≤ J → RI (g 137) n m a i) → K (rit true (g 137) n m a J).2.1 g') : cI (d + 7) m_X5_rehearse [(vR 118), (vI ((N : Int)))] dd sh g K := by
  have en := hS.n
  have em := hS.m
  have hnt := hS.night
  refine mkI (ls := [some (vR 118), some (vI ((N : Int))), none, none]) rfl rfl rfl rfl rfl (r_X5_rehearse_0 ?_)
  refine loop (P := fun j => ∀ g', NF g g' → RSc g' (rit true (g 137) n m a j).1 → (∀ i, i ≤ j → RI (g 137) n m a i) → rI (d + 6) m_X5_rehearse 4 [some (vR 118), some (vI ((N : Int))), some (vI ((rit true (g 137) n m a j).2.1)), some (vI ((j : Int)))] [] dd sh (g') K) (n := J) ?_ ?_ 0 (by omega) g NF.rf hS (fun i hi => ?_)
  · intro g' f hS' hRI
    have hx := hS'.night
    have z10 := rit_10 (w := true) (T := g 137) (n := n) (m := m) (a := a) J
    exact r_X5_rehearse_4 ⟨⟨by omega, by omega⟩, ⟨by omega, by omega⟩, fun _ => hK g' f hS' hRI, fun h => ⟨⟨by omega, by omega⟩, fun _ => hK g' f hS' hRI, fun h9 => absurd h9 (by omega)⟩⟩
  · intro j hj ih g' f hS' hRI
    have hx := hS'.night
    have z10 := rit_10 (w := true) (T := g 137) (n := n) (m := m) (a := a) j
    have zz : ∀ k, k < 10 ∨ (86 ≤ k ∧ k < 2524) → (rit true (g 137) n m a j).1 k = a k := fun k hk => rit_lo (by omega) (by omega) (by omega) (fun p hp => by omega) (fun c hc => by omega) j
    have hsucc : rit true (g 137) n m a (j + 1) = paS true (g 137) n m (rit true (g 137) n m a j) := rfl
    refine r_X5_rehearse_4 ⟨⟨by omega, by omega⟩, ⟨by omega, by omega⟩, fun h => absurd h (by omega), fun _ => ⟨⟨by omega, by omega⟩, fun h => absurd h (by omega), fun _ => ?_⟩⟩
    refine s_X5_giveNight (g0 := g) (a0 := (rit true (g 137) n m a j).1) (n := n) (m := m) (RHc.fr hH (fun _ _ => rfl) (fun k hk => zz k (by omega)) (by rw [zz 0 (by decide)]; exact Int.le_refl _) (by rw [zz 1 (by decide)]; exact Int.le_refl _)) (hX.fr (zz 2 (by decide)) fun _ _ => rfl) (by rw [zz 0 (by decide)]; exact hn) (by rw [zz 1 (by decide)]; exact hm) hS' f (by omega) fun g2 f2 hS2 _ => ?_
    have hsh := paS_Sh (w := true) (T := g 137) (n := n) (m := m) (x := (rit true (g 137) n m a j).2.1) (s := rit true (g 137) n m a j) (s' := ((rit true (g 137) n m a j).1, 0, 0)) ⟨rfl, (Int.add_zero _).symm⟩
    rw [← hsh.1] at hS2
    rw [← hsh.2]
    have hcnt := gA_cnt true (g 137) (n := n) (m := m) (rit true (g 137) n m a j) (by omega) (by omega) hS'.ab (by rw [zz 0 (by decide)]; exact hn) (by rw [zz 1 (by decide)]; exact hm)
    refine ih g2 f2 hS2 fun i hi => ?_
    by_cases hij : i = j + 1
    · subst hij
      have c1 := (hRI j (Nat.le_refl _)).2
      have c3 : (rit true (g 137) n m a j).2.1 ≤ (rit true (g 137) n m a (j + 1)).2.1 ∧ (rit true (g 137) n m a (j + 1)).2.1 ≤ (rit true (g 137) n m a j).2.1 + 84 := hcnt
      exact ⟨hS2.ab, by omega, by omega⟩
    · exact hRI i (by omega)
  · have e : i = 0 := by omega
    subst e
    exact ⟨hS.ab, by show (0 : Int) ≤ 0; decide, by show (0 : Int) ≤ 84 * ((0 : Nat) : Int); decide⟩
