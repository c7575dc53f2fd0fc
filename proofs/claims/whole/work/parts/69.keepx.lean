-- a kept step as a function; nights one after another
theorem s_X12_keepX {d : Nat} {dd : List (Nat × Nat)} {sh : Nat → Nat → Nat} {g : Nat → Nat → Int} {K : (Nat → Nat → Int) → Prop} {n : Nat} (hn : g 135 4 = n) (hn2 : n ≤ 30) (hK : ∀ g', (∀ q, q ≠ 135 → g' q = g q) → keepB (g 135) (g' 135) n → (n < 30 → ∀ k, 184 + 78 * n + 78 ≤ k → k < 2524 → g' 135 k = g 135 k) → K g') : cV (d + 2) m_X12_keep [(vR 134)] dd sh g K := by
  refine mkV (ls := [some (vR 134), none, none, none]) rfl rfl rfl rfl rfl (r_X12_keep_0 ?_)
  by_cases h30 : n = 30
  · have h13 : rV (d + 1) m_X12_keep 13 [some (vR 134), some (vI 0), none, none] [] dd sh g K := by
      refine loop (P := fun k => ∀ g', (∀ q, q ≠ 135 → g' q = g q) → (∀ j, j < 184 ∨ 184 + k ≤ j → g' 135 j = g 135 j) → (∀ j, 184 ≤ j → j < 184 + k → g' 135 j = g 135 (j + 78)) → rV (d + 1) m_X12_keep 13 [some (vR 134), some (vI ((k : Int))), none, none] [] dd sh (g') K) (n := 2262) ?_ ?_ 0 (by omega) g (fun q hq => rfl) (fun j hj => rfl) (fun j hj hj2 => absurd hj2 (by omega))
      · intro g' f1 f2 f3
        refine r_X12_keep_13 ?_
        rw [f2 4 (by omega), f2 0 (by omega), hn, h30]
        refine ⟨⟨by decide, by decide⟩, fun _ => ⟨by decide, by decide, by decide, by decide, ?_⟩, fun h => absurd h (by decide)⟩
        rw [show (184 + 78 * (((30 : Nat) : Int) - 1)).toNat = 2446 from rfl, show (184 + 78 * (((30 : Nat) : Int) - 1) + 1).toNat = 2447 from rfl, show (184 + 78 * (((30 : Nat) : Int) - 1)) = ((2446 : Nat) : Int) from rfl]
        refine s_keep98 (g0 := g) (A := up g' 135 4 29 135) (by omega) ⟨fun q hq => by rw [up_off hq, up_off hq, up_off hq, f1 q hq], fun k hk => ?_, ⟨?_, ?_⟩, fun p hp => absurd hp (by omega), fun p hp => absurd hp (by omega), fun p hp => absurd hp (by omega), fun p hp => absurd hp (by omega), fun p hp => absurd hp (by omega), fun p hp => absurd hp (by omega)⟩ fun g'' h => ?_
        · rw [up_at, if_neg (by omega), up_at, if_neg (by omega)]; rfl
        · rw [up_at, if_neg (by omega), up_at, if_pos rfl, up_at, if_neg (by omega), f2 0 (by omega)]
        · rw [up_at, if_pos rfl, up_at, if_neg (by omega), up_at, if_neg (by omega)]; rfl
        · refine hK _ (fun q hq => by rw [up_off hq, h.1 q hq]) ⟨fun k hk hk2 => ?_, Or.inl ⟨h30, ?_, fun k hk hk2 => ?_, ?_⟩⟩ (fun h9 => absurd h9 (by omega))
          · rw [up_at, if_neg (by omega), h.2.1 k (by omega), up_at, if_neg (by omega), f2 k (by omega)]
          · rw [up_at, if_pos rfl, h.2.1 4 (by omega), up_at, if_pos rfl]; rfl
          · rw [up_at, if_neg (by omega), h.2.1 k (by omega), up_at, if_neg (by omega), f3 k (by omega) (by omega)]
          · exact h.sv (by omega) fun k hk hk2 => by rw [up_at, if_neg hk, f2 k (by omega)]
      · intro k hk ih g' f1 f2 f3
        have hh := ih (up g' 135 (184 + k) (g' 135 (262 + k))) (fun q hq => by rw [up_off hq, f1 q hq]) (fun j hj => by rw [up_at, if_neg (by omega), f2 j (by omega)]) (fun j hj hj2 => by
          by_cases hjk : j = 184 + k
          · subst hjk
            rw [up_at, if_pos rfl, f2 _ (by omega)]; congr 1; omega
          · rw [up_at, if_neg hjk, f3 j hj (by omega)])
        refine r_X12_keep_13 ?_
        rw [show (262 + (k : Int)).toNat = 262 + k by omega, show (184 + (k : Int)).toNat = 184 + k by omega]
        exact ⟨⟨by omega, by omega⟩, fun h => absurd h (by omega), fun _ => ⟨by omega, by omega, by omega, by omega, hh⟩⟩
    exact ⟨⟨by omega, by omega⟩, fun h => absurd (show g 135 4 = 30 by omega) h, fun _ => h13⟩
  · have h98 : rV (d + 1) m_X12_keep 98 [some (vR 134), some (vI ((184 + 78 * n : Nat) : Int)), some (vI 0), none] [] dd sh (up (up g 135 (184 + 78 * n) (g 135 0)) 135 (185 + 78 * n) (g 135 1)) K := by
      refine s_keep98 (g0 := g) (A := g 135) (by omega) ⟨fun q hq => by rw [up_off hq, up_off hq], fun k hk => ?_, ⟨?_, ?_⟩, fun p hp => absurd hp (by omega), fun p hp => absurd hp (by omega), fun p hp => absurd hp (by omega), fun p hp => absurd hp (by omega), fun p hp => absurd hp (by omega), fun p hp => absurd hp (by omega)⟩ fun g'' h => ?_
      · rw [up_at, if_neg (by omega), up_at, if_neg (by omega)]
      · rw [up_at, if_neg (by omega), up_at, if_pos rfl]
      · rw [up_at, if_pos (by omega)]
      · refine hK _ (fun q hq => by rw [up_off hq, h.1 q hq]) ⟨fun k hk hk2 => ?_, Or.inr ⟨by omega, ?_, fun k hk hk2 => ?_, ?_⟩⟩ (fun _ k hk hk2 => by rw [up_at, if_neg (by omega), h.2.1 k (by omega)])
        · rw [up_at, if_neg (by omega), h.2.1 k (by omega)]
        · rw [up_at, if_pos rfl, h.2.1 4 (by omega), hn]
        · rw [up_at, if_neg (by omega), h.2.1 k (by omega)]
        · exact h.sv (by omega) fun k hk hk2 => rfl
    rw [hn]
    refine ⟨⟨by omega, by omega⟩, fun _ => ⟨by omega, by omega, by omega, by omega, ?_⟩, fun h => absurd h (by omega)⟩
    rw [show (184 + 78 * (n : Int)).toNat = 184 + 78 * n by omega, show (184 + 78 * (n : Int) + 1).toNat = 185 + 78 * n by omega, show (184 + 78 * (n : Int)) = ((184 + 78 * n : Nat) : Int) by omega, up_at, if_neg (by omega)]
    exact h98
def svC (a : Nat → Int) (j : Nat) : Int := if j = 0 then a 0 else if j = 1 then a 1 else if j < 6 then a (8 + j) else if j < 24 then a (18 + 7 * ((j - 6) / 3) + (j - 6) % 3) else if j < 38 then a (60 + 4 * ((j - 24) / 2) + (j - 24) % 2) else a (2486 + j)
theorem svB.eq {a b : Nat → Int} {x : Nat} (h : svB a b x) : ∀ j, j < 78 → b (x + j) = svC a j := by
  obtain ⟨⟨h0, h1⟩, h2, h3, h4, h5⟩ := h
  intro j hj
  unfold svC
  by_cases c0 : j = 0
  · rw [if_pos c0, c0]; exact h0
  · rw [if_neg c0]
    by_cases c1 : j = 1
    · rw [if_pos c1, c1]; exact h1
    · rw [if_neg c1]
      by_cases c2 : j < 6
      · rw [if_pos c2, show x + j = x + 2 + (j - 2) by omega, h2 (j - 2) (by omega), show 10 + (j - 2) = 8 + j by omega]
      · rw [if_neg c2]
        by_cases c3 : j < 24
        · rw [if_pos c3, show x + j = x + 6 + 3 * ((j - 6) / 3) + (j - 6) % 3 by omega]
          exact h3 _ (by omega) _ (by omega)
        · rw [if_neg c3]
          by_cases c4 : j < 38
          · rw [if_pos c4, show x + j = x + 24 + 2 * ((j - 24) / 2) + (j - 24) % 2 by omega]
            exact h4 _ (by omega) _ (by omega)
          · rw [if_neg c4, show x + j = x + 38 + (j - 38) by omega, h5 (j - 38) (by omega), show 2524 + (j - 38) = 2486 + j by omega]
theorem svB.of {a b : Nat → Int} {x : Nat} (h : ∀ j, j < 78 → b (x + j) = svC a j) : svB a b x := by
  refine ⟨⟨h 0 (by decide), h 1 (by decide)⟩, fun k hk => ?_, fun p hp k hk => ?_, fun c hc k hk => ?_, fun k hk => ?_⟩
  · rw [show x + 2 + k = x + (2 + k) by omega, h _ (by omega)]
    unfold svC
    rw [if_neg (by omega), if_neg (by omega), if_pos (by omega), show 8 + (2 + k) = 10 + k by omega]
  · rw [show x + 6 + 3 * p + k = x + (6 + 3 * p + k) by omega, h _ (by omega)]
    unfold svC
    rw [if_neg (by omega), if_neg (by omega), if_neg (by omega), if_pos (by omega), show (6 + 3 * p + k - 6) / 3 = p by omega, show (6 + 3 * p + k - 6) % 3 = k by omega]
  · rw [show x + 24 + 2 * c + k = x + (24 + 2 * c + k) by omega, h _ (by omega)]
    unfold svC
    rw [if_neg (by omega), if_neg (by omega), if_neg (by omega), if_neg (by omega), if_pos (by omega), show (24 + 2 * c + k - 24) / 2 = c by omega, show (24 + 2 * c + k - 24) % 2 = k by omega]
  · rw [show x + 38 + k = x + (38 + k) by omega, h _ (by omega)]
    unfold svC
    rw [if_neg (by omega), if_neg (by omega), if_neg (by omega), if_neg (by omega), if_neg (by omega), show 2486 + (38 + k) = 2524 + k by omega]
/-- with one kept step more -/
def kpA (a : Nat → Int) : Nat → Int := fun k => if k = 4 then (if a 4 = 30 then 30 else a 4 + 1) else if k < 184 ∨ 2524 ≤ k then a k else if a 4 = 30 then (if k < 2446 then a (k + 78) else svC a (k - 2446)) else if 184 + 78 * (a 4).toNat ≤ k ∧ k < 184 + 78 * (a 4).toNat + 78 then svC a (k - (184 + 78 * (a 4).toNat)) else a k
theorem kpA_lo {a : Nat → Int} {k : Nat} (h4 : k ≠ 4) (h : k < 184 ∨ 2524 ≤ k) : kpA a k = a k := by unfold kpA; rw [if_neg h4, if_pos h]
theorem kpA_keepB {a : Nat → Int} {n : Nat} (hn : a 4 = n) (hn2 : n ≤ 30) : keepB a (kpA a) n := by
  refine ⟨fun k h4 h => kpA_lo h4 h, ?_⟩
  by_cases h30 : n = 30
  · refine Or.inl ⟨h30, ?_, fun k h1 h2 => ?_, svB.of fun j hj => ?_⟩
    · unfold kpA; rw [if_pos rfl, if_pos (by omega)]
    · unfold kpA; rw [if_neg (by omega), if_neg (by omega), if_pos (by omega), if_pos h2]
    · unfold kpA; rw [if_neg (by omega), if_neg (by omega), if_pos (by omega), if_neg (by omega), show 2446 + j - 2446 = j by omega]
  · refine Or.inr ⟨by omega, ?_, fun k h1 h2 => ?_, svB.of fun j hj => ?_⟩
    · unfold kpA; rw [if_pos rfl, if_neg (by omega), hn]
    · unfold kpA; rw [if_neg (by omega), if_neg (by omega), if_neg (by omega), if_neg (by omega)]
    · unfold kpA; rw [if_neg (by omega), if_neg (by omega), if_neg (by omega), if_pos (by omega), show 184 + 78 * n + j - (184 + 78 * (a 4).toNat) = j by omega]
theorem keepB_kpA {a b : Nat → Int} {n : Nat} (hn : a 4 = n) (hn2 : n ≤ 30) (h : keepB a b n) (hx : n < 30 → ∀ k, 184 + 78 * n + 78 ≤ k → k < 2524 → b k = a k) : b = kpA a := by
  obtain ⟨h1, h2⟩ := h
  funext k
  unfold kpA
  by_cases h4 : k = 4
  · rw [if_pos h4, h4]
    rcases h2 with ⟨e, e4, _⟩ | ⟨e, e4, _⟩
    · rw [if_pos (by omega)]; exact e4
    · rw [if_neg (by omega), hn]; exact e4
  · rw [if_neg h4]
    by_cases hl : k < 184 ∨ 2524 ≤ k
    · rw [if_pos hl]; exact h1 k h4 hl
    · rw [if_neg hl]
      rcases h2 with ⟨e, _, e1, e2⟩ | ⟨e, _, e1, e2⟩
      · rw [if_pos (by omega)]
        by_cases hk : k < 2446
        · rw [if_pos hk]; exact e1 k (by omega) hk
        · rw [if_neg hk]
          have := e2.eq (k - 2446) (by omega)
          rw [show 2446 + (k - 2446) = k by omega] at this
          exact this
      · rw [if_neg (by omega)]
        by_cases hk : 184 + 78 * (a 4).toNat ≤ k ∧ k < 184 + 78 * (a 4).toNat + 78
        · rw [if_pos hk]
          have := e2.eq (k - (184 + 78 * n)) (by omega)
          rw [show 184 + 78 * n + (k - (184 + 78 * n)) = k by omega] at this
          rw [this, show (a 4).toNat = n by omega]
        · rw [if_neg hk]
          by_cases hk2 : k < 184 + 78 * n
          · exact e1 k (by omega) hk2
          · exact hx e k (by omega) (by omega)
theorem kpA_AB {a : Nat → Int} (H : AB a) : AB (kpA a) := by
  unfold AB
  rw [kpA_lo (k := 0) (by decide) (by decide), kpA_lo (k := 1) (by decide) (by decide), kpA_lo (k := 10) (by decide) (by decide), kpA_lo (k := 11) (by decide) (by decide), kpA_lo (k := 12) (by decide) (by decide), kpA_lo (k := 13) (by decide) (by decide)]
  refine ⟨H.n, H.m, H.night, H.tak, H.x, H.wr, fun p hp hq => ?_, fun c hc hq => ?_, fun i hi => ?_⟩
  · rw [kpA_lo (k := 16 + 7 * p) (by omega) (by omega), kpA_lo (k := 17 + 7 * p) (by omega) (by omega), kpA_lo (k := 18 + 7 * p) (by omega) (by omega), kpA_lo (k := 19 + 7 * p) (by omega) (by omega), kpA_lo (k := 20 + 7 * p) (by omega) (by omega), kpA_lo (k := 21 + 7 * p) (by omega) (by omega)]; exact H.pp p hp hq
  · rw [kpA_lo (k := 58 + 4 * c) (by omega) (by omega), kpA_lo (k := 59 + 4 * c) (by omega) (by omega), kpA_lo (k := 60 + 4 * c) (by omega) (by omega), kpA_lo (k := 61 + 4 * c) (by omega) (by omega)]; exact H.cc c hc hq
  · rw [kpA_lo (k := 2524 + i) (by omega) (by omega)]; exact H.bk i hi
-- what a night leaves, and its counts from elsewhere
theorem paS_off {w : Bool} {T : Nat → Int} {n m : Nat} {s : ST} {k : Nat} (hn : n ≤ 6) (hm : m ≤ 7) (hk : k < 10 ∨ (14 ≤ k ∧ k < 2524)) (h19 : ∀ p, p < 6 → k ≠ 19 + 7 * p) (h61 : ∀ c, c < 7 → k ≠ 61 + 4 * c) : (paS w T n m s).1 k = s.1 k := by
  have hb : BK s.1 (gA w T n m s).1 := gA_BK (fun _ _ _ _ => rfl) m
  unfold paS
  show upR _ 10 _ k = _
  rw [upR_off (by omega), ecA_off m (fun c hc => h61 c (by omega)), hbA_off n (fun p hp => h19 p (by omega))]
  unfold tkA
  rw [upR_off (by omega)]
  exact hb k (by omega) (by omega) (by omega)
theorem paS_10 {w : Bool} {T : Nat → Int} {n m : Nat} {s : ST} : (paS w T n m s).1 10 = s.1 10 + 1 := by
  have hb : BK s.1 (gA w T n m s).1 := gA_BK (fun _ _ _ _ => rfl) m
  unfold paS
  show upR (ecA (hbA (tkA T n (gA w T n m s).1) n) m) 10 (ecA (hbA (tkA T n (gA w T n m s).1) n) m 10 + 1) 10 = s.1 10 + 1
  rw [upR_at, ecA_off m (fun c hc => by omega), hbA_off n (fun p hp => by omega)]
  unfold tkA
  rw [upR_off (by omega), hb 10 (by decide) (by decide) (by decide)]
theorem foldN_rel {R : ST → ST → Prop} {f : ST → Nat → ST} (hf : ∀ s s' k, R s s' → R (f s k) (f s' k)) {s s' : ST} (h : R s s') : ∀ n, R (foldN f s n) (foldN f s' n) := by
  intro n
  induction n with
  | zero => exact h
  | succ n ih => exact hf _ _ _ ih
/-- the same, x signs more before -/
def Sh (x : Int) (s s' : ST) : Prop := s.1 = s'.1 ∧ s.2.1 = x + s'.2.1
theorem g1_Sh {w : Bool} {T : Nat → Int} {c p : Nat} {x : Int} {s s' : ST} (h : Sh x s s') : Sh x (g1 w T c s p) (g1 w T c s' p) := by
  obtain ⟨h1, h2⟩ := h
  unfold g1
  rw [h1]
  split
  · exact ⟨h1, h2⟩
  · split
    · exact ⟨rfl, by show s.2.1 + 1 = x + (s'.2.1 + 1); omega⟩
    · exact ⟨rfl, h2⟩
theorem gA_Sh {w : Bool} {T : Nat → Int} {n m : Nat} {x : Int} {s s' : ST} (h : Sh x s s') : Sh x (gA w T n m s) (gA w T n m s') := by
  refine foldN_rel (R := Sh x) (fun s s' k hs => ?_) h m
  unfold gT
  rw [hs.1]
  exact foldN_rel (R := Sh x) (f := fun s _ => gS w T n k s) (fun s s' _ hs => foldN_rel (R := Sh x) (f := g1 w T k) (fun s s' p hs => g1_Sh hs) hs n) hs _
theorem paS_Sh {w : Bool} {T : Nat → Int} {n m : Nat} {x : Int} {s s' : ST} (h : Sh x s s') : Sh x (paS w T n m s) (paS w T n m s') := by
  have := gA_Sh (w := w) (T := T) (n := n) (m := m) h
  unfold paS
  rw [this.1]
  exact ⟨rfl, this.2⟩
-- how many signs a night shows at most
theorem foldN_cnt {f : ST → Nat → ST} {B : Int} (hf : ∀ s k, s.2.1 ≤ (f s k).2.1 ∧ (f s k).2.1 ≤ s.2.1 + B) (s : ST) : ∀ n : Nat, s.2.1 ≤ (foldN f s n).2.1 ∧ (foldN f s n).2.1 ≤ s.2.1 + n * B := by
  intro n
  induction n with
  | zero => exact ⟨Int.le_refl _, by show s.2.1 ≤ s.2.1 + ((0 : Nat) : Int) * B; rw [show ((0 : Nat) : Int) = 0 from rfl, Int.zero_mul]; omega⟩
  | succ n ih =>
    have := hf (foldN f s n) n
    show s.2.1 ≤ (f (foldN f s n) n).2.1 ∧ (f (foldN f s n) n).2.1 ≤ s.2.1 + ((n + 1 : Nat) : Int) * B
    rw [show ((n + 1 : Nat) : Int) = (n : Int) + 1 from rfl, Int.add_mul, Int.one_mul]
    omega
theorem g1_cnt (w : Bool) (T : Nat → Int) (c : Nat) (s : ST) (p : Nat) : s.2.1 ≤ (g1 w T c s p).2.1 ∧ (g1 w T c s p).2.1 ≤ s.2.1 + 1 := by
  unfold g1
  split
  · omega
  · split
    · show s.2.1 ≤ s.2.1 + 1 ∧ s.2.1 + 1 ≤ s.2.1 + 1; omega
    · show s.2.1 ≤ s.2.1 ∧ s.2.1 ≤ s.2.1 + 1; omega
theorem gA_cnt (w : Bool) (T : Nat → Int) {n m : Nat} (s : ST) (hn : n ≤ 6) (hm : m ≤ 7) (hA : AB s.1) (h0 : s.1 0 = n) (h1 : s.1 1 = m) : s.2.1 ≤ (gA w T n m s).2.1 ∧ (gA w T n m s).2.1 ≤ s.2.1 + 84 := by
  have key : ∀ k : Nat, k ≤ m → s.2.1 ≤ (foldN (gT w T n) s k).2.1 ∧ (foldN (gT w T n) s k).2.1 ≤ s.2.1 + k * 12 := by
    intro k
    induction k with
    | zero => intro _; exact ⟨Int.le_refl _, by show s.2.1 ≤ s.2.1 + ((0 : Nat) : Int) * 12; omega⟩
    | succ k ih =>
      intro hk
      have i1 := ih (by omega)
      have hb : BK s.1 (foldN (gT w T n) s k).1 := gA_BK (fun _ _ _ _ => rfl) k
      have hAk := gA_AB (w := w) (T := T) hA h0 k (by omega)
      have ht := tgA_b hAk (c := k) (by omega) (by rw [hb 1 (by decide) (by decide) (by decide)]; omega)
      have h2 := foldN_cnt (f := fun s _ => gS w T n k s) (B := 6) (fun s j => by
        have := foldN_cnt (f := g1 w T k) (B := 1) (fun s p => g1_cnt w T k s p) s n
        show s.2.1 ≤ (foldN (g1 w T k) s n).2.1 ∧ (foldN (g1 w T k) s n).2.1 ≤ s.2.1 + 6
        omega) (foldN (gT w T n) s k) (tgA (foldN (gT w T n) s k).1 k)
      have e : foldN (gT w T n) s (k + 1) = foldN (fun s _ => gS w T n k s) (foldN (gT w T n) s k) (tgA (foldN (gT w T n) s k).1 k) := rfl
      rw [e]
      omega
  have := key m (Nat.le_refl _)
  unfold gA
  omega
