-- what the reference keeps ahead of a step
theorem s_getI {d : Nat} {dd : List (Nat × Nat)} {sh : Nat → Nat → Nat} {g : Nat → Nat → Int} {K : Int → (Nat → Nat → Int) → Prop} {p j : Nat} {f : Int} (hj : (j : Int) = 16 + 7 * p + f) (hj2 : j < 2564) (hK : K (g 135 j) g) : cI (d + 1) m_X12_get [(vR 134), (vI (p : Int)), (vI f)] dd sh g K := by
  refine mkI (ls := [some (vR 134), some (vI ((p : Int))), some (vI f)]) rfl rfl rfl rfl rfl (r_X12_get_0 ?_)
  rw [show ((16 + (7 * (p : Int))) + f).toNat = j by omega]
  exact ⟨by omega, by omega, hK⟩
theorem s_ofI {d : Nat} {dd : List (Nat × Nat)} {sh : Nat → Nat → Nat} {g : Nat → Nat → Int} {K : Int → (Nat → Nat → Int) → Prop} {c j : Nat} {f : Int} (hj : (j : Int) = 58 + 4 * c + f) (hj2 : j < 2564) (hK : K (g 135 j) g) : cI (d + 1) m_X12_of [(vR 134), (vI (c : Int)), (vI f)] dd sh g K := by
  refine mkI (ls := [some (vR 134), some (vI ((c : Int))), some (vI f)]) rfl rfl rfl rfl rfl (r_X12_of_0 ?_)
  rw [show ((58 + (4 * (c : Int))) + f).toNat = j by omega]
  exact ⟨by omega, by omega, hK⟩
theorem s_layI {d : Nat} {dd : List (Nat × Nat)} {sh : Nat → Nat → Nat} {g : Nat → Nat → Int} {K : (Nat → Nat → Int) → Prop} {c j : Nat} {f x : Int} (hj : (j : Int) = 58 + 4 * c + f) (hj2 : j < 2564) (hK : K (up g 135 j x)) : cV (d + 1) m_X12_lay [(vR 134), (vI (c : Int)), (vI f), (vI x)] dd sh g K := by
  refine mkV (ls := [some (vR 134), some (vI ((c : Int))), some (vI f), some (vI x)]) rfl rfl rfl rfl rfl (r_X12_lay_0 ?_)
  rw [show ((58 + (4 * (c : Int))) + f).toNat = j by omega]
  exact ⟨by omega, by omega, hK⟩
/-- what is laid so far from x on, of the row A -/
def kpI (g g' : Nat → Nat → Int) (A : Nat → Int) (x m2 m3 k3 m4 k4 m5 : Nat) : Prop := (∀ q, q ≠ 135 → g' q = g q) ∧ (∀ k, (k < x ∨ x + 78 ≤ k) → g' 135 k = A k) ∧ (g' 135 x = A 0 ∧ g' 135 (x + 1) = A 1) ∧
  (∀ k, k < m2 → g' 135 (x + 2 + k) = A (10 + k)) ∧ (∀ p, p < m3 → ∀ k, k < 3 → g' 135 (x + 6 + 3 * p + k) = A (18 + 7 * p + k)) ∧ (∀ k, k < k3 → g' 135 (x + 6 + 3 * m3 + k) = A (18 + 7 * m3 + k)) ∧
  (∀ c, c < m4 → ∀ k, k < 2 → g' 135 (x + 24 + 2 * c + k) = A (60 + 4 * c + k)) ∧ (∀ k, k < k4 → g' 135 (x + 24 + 2 * m4 + k) = A (60 + 4 * m4 + k)) ∧ ∀ k, k < m5 → g' 135 (x + 38 + k) = A (2524 + k)
section KP
variable {g g' : Nat → Nat → Int} {A : Nat → Int} {x m2 m3 k3 m4 k4 m5 : Nat}
theorem kpI.a2 (h : kpI g g' A x m2 0 0 0 0 0) (hm : m2 < 4) (hx : 184 ≤ x ∧ x ≤ 2446) : kpI g (up g' 135 (x + 2 + m2) (g' 135 (10 + m2))) A x (m2 + 1) 0 0 0 0 0 := by
  obtain ⟨a1, a2, a3, a4, -⟩ := h
  refine ⟨fun q hq => by rw [up_off hq, a1 q hq], fun k hk => ?_, ⟨?_, ?_⟩, fun k hk => ?_, fun p hp => absurd hp (by omega), fun p hp => absurd hp (by omega), fun p hp => absurd hp (by omega), fun p hp => absurd hp (by omega), fun p hp => absurd hp (by omega)⟩
  · rw [up_at, if_neg (by omega)]; exact a2 k hk
  · rw [up_at, if_neg (by omega)]; exact a3.1
  · rw [up_at, if_neg (by omega)]; exact a3.2
  · by_cases h : k = m2
    · subst h; rw [up_at, if_pos rfl]; exact a2 _ (by omega)
    · rw [up_at, if_neg (by omega)]; exact a4 k (by omega)
theorem kpI.a3 (h : kpI g g' A x 4 m3 k3 0 0 0) (hm : m3 < 6) (hk : k3 < 3) (hx : 184 ≤ x ∧ x ≤ 2446) : kpI g (up g' 135 (x + 6 + 3 * m3 + k3) (g' 135 (18 + 7 * m3 + k3))) A x 4 m3 (k3 + 1) 0 0 0 := by
  obtain ⟨a1, a2, a3, a4, a5, a6, -⟩ := h
  refine ⟨fun q hq => by rw [up_off hq, a1 q hq], fun k hk => ?_, ⟨?_, ?_⟩, fun k hk => ?_, fun p hp k hk => ?_, fun k hk => ?_, fun p hp => absurd hp (by omega), fun p hp => absurd hp (by omega), fun p hp => absurd hp (by omega)⟩
  · rw [up_at, if_neg (by omega)]; exact a2 k hk
  · rw [up_at, if_neg (by omega)]; exact a3.1
  · rw [up_at, if_neg (by omega)]; exact a3.2
  · rw [up_at, if_neg (by omega)]; exact a4 k hk
  · rw [up_at, if_neg (by omega)]; exact a5 p hp k hk
  · by_cases h : k = k3
    · subst h; rw [up_at, if_pos rfl]; exact a2 _ (by omega)
    · rw [up_at, if_neg (by omega)]; exact a6 k (by omega)
theorem kpI.b3 (h : kpI g g' A x 4 m3 3 0 0 0) : kpI g g' A x 4 (m3 + 1) 0 0 0 0 := by
  obtain ⟨a1, a2, a3, a4, a5, a6, a7, a8, a9⟩ := h
  refine ⟨a1, a2, a3, a4, fun p hp k hk => ?_, fun p hp => absurd hp (by omega), a7, a8, a9⟩
  by_cases h : p = m3
  · subst h; exact a6 k hk
  · exact a5 p (by omega) k hk
theorem kpI.a4 (h : kpI g g' A x 4 6 0 m4 k4 0) (hm : m4 < 7) (hk : k4 < 2) (hx : 184 ≤ x ∧ x ≤ 2446) : kpI g (up g' 135 (x + 24 + 2 * m4 + k4) (g' 135 (60 + 4 * m4 + k4))) A x 4 6 0 m4 (k4 + 1) 0 := by
  obtain ⟨a1, a2, a3, a4, a5, a6, a7, a8, a9⟩ := h
  refine ⟨fun q hq => by rw [up_off hq, a1 q hq], fun k hk => ?_, ⟨?_, ?_⟩, fun k hk => ?_, fun p hp k hk => ?_, fun p hp => absurd hp (by omega), fun c hc k hk => ?_, fun k hk => ?_, fun p hp => absurd hp (by omega)⟩
  · rw [up_at, if_neg (by omega)]; exact a2 k hk
  · rw [up_at, if_neg (by omega)]; exact a3.1
  · rw [up_at, if_neg (by omega)]; exact a3.2
  · rw [up_at, if_neg (by omega)]; exact a4 k hk
  · rw [up_at, if_neg (by omega)]; exact a5 p hp k hk
  · rw [up_at, if_neg (by omega)]; exact a7 c hc k hk
  · by_cases h : k = k4
    · subst h; rw [up_at, if_pos rfl]; exact a2 _ (by omega)
    · rw [up_at, if_neg (by omega)]; exact a8 k (by omega)
theorem kpI.b4 (h : kpI g g' A x 4 6 0 m4 2 0) : kpI g g' A x 4 6 0 (m4 + 1) 0 0 := by
  obtain ⟨a1, a2, a3, a4, a5, a6, a7, a8, a9⟩ := h
  refine ⟨a1, a2, a3, a4, a5, a6, fun p hp k hk => ?_, fun p hp => absurd hp (by omega), a9⟩
  by_cases h : p = m4
  · subst h; exact a8 k hk
  · exact a7 p (by omega) k hk
theorem kpI.a5 (h : kpI g g' A x 4 6 0 7 0 m5) (hm : m5 < 40) (hx : 184 ≤ x ∧ x ≤ 2446) : kpI g (up g' 135 (x + 38 + m5) (g' 135 (2524 + m5))) A x 4 6 0 7 0 (m5 + 1) := by
  obtain ⟨a1, a2, a3, a4, a5, a6, a7, a8, a9⟩ := h
  refine ⟨fun q hq => by rw [up_off hq, a1 q hq], fun k hk => ?_, ⟨?_, ?_⟩, fun k hk => ?_, fun p hp k hk => ?_, fun p hp => absurd hp (by omega), fun c hc k hk => ?_, fun p hp => absurd hp (by omega), fun k hk => ?_⟩
  · rw [up_at, if_neg (by omega)]; exact a2 k hk
  · rw [up_at, if_neg (by omega)]; exact a3.1
  · rw [up_at, if_neg (by omega)]; exact a3.2
  · rw [up_at, if_neg (by omega)]; exact a4 k hk
  · rw [up_at, if_neg (by omega)]; exact a5 p hp k hk
  · rw [up_at, if_neg (by omega)]; exact a7 c hc k hk
  · by_cases h : k = m5
    · subst h; rw [up_at, if_pos rfl]; exact a2 _ (by omega)
    · rw [up_at, if_neg (by omega)]; exact a9 k (by omega)
end KP
theorem s_keep98 {d : Nat} {dd : List (Nat × Nat)} {sh : Nat → Nat → Nat} {g : Nat → Nat → Int} {K : (Nat → Nat → Int) → Prop} {g0 : Nat → Nat → Int} {A : Nat → Int} {x : Nat} (hx : 184 ≤ x ∧ x ≤ 2446) (h0 : kpI g0 g A x 0 0 0 0 0 0) (hK : ∀ g', kpI g0 g' A x 4 6 0 7 0 40 → K (up g' 135 4 (g' 135 4 + 1))) : rV (d + 1) m_X12_keep 98 [some (vR 134), some (vI ((x : Int))), some (vI 0), none] [] dd sh g K := by
  have h230 : ∀ g', kpI g0 g' A x 4 6 0 7 0 0 → rV (d + 1) m_X12_keep 230 [some (vR 134), some (vI ((x : Int))), some (vI 0), none] [] dd sh (g') K := by
    refine loop (P := fun k => ∀ g', kpI g0 g' A x 4 6 0 7 0 k → rV (d + 1) m_X12_keep 230 [some (vR 134), some (vI ((x : Int))), some (vI ((k : Int))), none] [] dd sh (g') K) (n := 40) ?_ ?_ 0 (by omega)
    · intro g' h
      exact r_X12_keep_230 ⟨⟨by omega, by omega⟩, fun _ => hK g' h, fun h => absurd h (by omega)⟩
    · intro k hk ih g' h
      have hh := ih _ (h.a5 hk hx)
      refine r_X12_keep_230 ?_
      rw [show (2524 + (k : Int)).toNat = 2524 + k by omega, show (((x : Int) + 38) + (k : Int)).toNat = x + 38 + k by omega]
      exact ⟨⟨by omega, by omega⟩, fun h => absurd h (by omega), fun _ => ⟨by omega, by omega, by omega, by omega, hh⟩⟩
  have h180 : ∀ g', kpI g0 g' A x 4 6 0 0 0 0 → rV (d + 1) m_X12_keep 180 [some (vR 134), some (vI ((x : Int))), some (vI 0), none] [] dd sh (g') K := by
    refine loop (P := fun k => ∀ g', kpI g0 g' A x 4 6 0 k 0 0 → rV (d + 1) m_X12_keep 180 [some (vR 134), some (vI ((x : Int))), some (vI ((k : Int))), none] [] dd sh (g') K) (n := 7) ?_ ?_ 0 (by omega)
    · intro g' h
      exact r_X12_keep_180 ⟨⟨by omega, by omega⟩, fun _ => h230 g' h, fun h => absurd h (by omega)⟩
    · intro k hk ih g' h
      refine r_X12_keep_180 ⟨⟨by omega, by omega⟩, fun h => absurd h (by omega), fun _ => ?_⟩
      refine loop (P := fun j => ∀ g', kpI g0 g' A x 4 6 0 k j 0 → rV (d + 1) m_X12_keep 188 [some (vR 134), some (vI ((x : Int))), some (vI ((k : Int))), some (vI ((j : Int)))] [] dd sh (g') K) (n := 2) ?_ ?_ 0 (by omega) g' h
      · intro g' h
        exact r_X12_keep_188 ⟨⟨by omega, by omega⟩, fun _ => ih g' h.b4, fun h => absurd h (by omega)⟩
      · intro j hj ihj g' h
        have hh := ihj _ (h.a4 hk hj hx)
        refine r_X12_keep_188 ⟨⟨by omega, by omega⟩, fun h => absurd h (by omega), fun _ => ?_⟩
        refine s_ofI (j := 60 + 4 * k + j) (by omega) (by omega) ⟨by omega, by omega, ?_⟩
        rw [show ((((x : Int) + 24) + (2 * (k : Int))) + (j : Int)).toNat = x + 24 + 2 * k + j by omega]
        exact hh
  have h130 : ∀ g', kpI g0 g' A x 4 0 0 0 0 0 → rV (d + 1) m_X12_keep 130 [some (vR 134), some (vI ((x : Int))), some (vI 0), none] [] dd sh (g') K := by
    refine loop (P := fun k => ∀ g', kpI g0 g' A x 4 k 0 0 0 0 → rV (d + 1) m_X12_keep 130 [some (vR 134), some (vI ((x : Int))), some (vI ((k : Int))), none] [] dd sh (g') K) (n := 6) ?_ ?_ 0 (by omega)
    · intro g' h
      exact r_X12_keep_130 ⟨⟨by omega, by omega⟩, fun _ => h180 g' h, fun h => absurd h (by omega)⟩
    · intro k hk ih g' h
      refine r_X12_keep_130 ⟨⟨by omega, by omega⟩, fun h => absurd h (by omega), fun _ => ?_⟩
      refine loop (P := fun j => ∀ g', kpI g0 g' A x 4 k j 0 0 0 → rV (d + 1) m_X12_keep 138 [some (vR 134), some (vI ((x : Int))), some (vI ((k : Int))), some (vI ((j : Int)))] [] dd sh (g') K) (n := 3) ?_ ?_ 0 (by omega) g' h
      · intro g' h
        exact r_X12_keep_138 ⟨⟨by omega, by omega⟩, fun _ => ih g' h.b3, fun h => absurd h (by omega)⟩
      · intro j hj ihj g' h
        have hh := ihj _ (h.a3 hk hj hx)
        refine r_X12_keep_138 ⟨⟨by omega, by omega⟩, fun h => absurd h (by omega), fun _ => ?_⟩
        refine s_getI (j := 18 + 7 * k + j) (by omega) (by omega) ⟨by omega, by omega, ?_⟩
        rw [show ((((x : Int) + 6) + (3 * (k : Int))) + (j : Int)).toNat = x + 6 + 3 * k + j by omega]
        exact hh
  refine loop (P := fun k => ∀ g', kpI g0 g' A x k 0 0 0 0 0 → rV (d + 1) m_X12_keep 98 [some (vR 134), some (vI ((x : Int))), some (vI ((k : Int))), none] [] dd sh (g') K) (n := 4) ?_ ?_ 0 (by omega) g h0
  · intro g' h
    exact r_X12_keep_98 ⟨⟨by omega, by omega⟩, fun _ => h130 g' h, fun h => absurd h (by omega)⟩
  · intro k hk ih g' h
    have hh := ih _ (h.a2 hk hx)
    refine r_X12_keep_98 ?_
    rw [show (10 + (k : Int)).toNat = 10 + k by omega, show (((x : Int) + 2) + (k : Int)).toNat = x + 2 + k by omega]
    exact ⟨⟨by omega, by omega⟩, fun h => absurd h (by omega), fun _ => ⟨by omega, by omega, by omega, by omega, hh⟩⟩
theorem kpI.sv {g g' : Nat → Nat → Int} {A a : Nat → Int} {x : Nat} {v : Int} (h : kpI g g' A x 4 6 0 7 0 40) (hx : 184 ≤ x ∧ x ≤ 2446) (ha : ∀ k, k ≠ 4 → (k < 184 ∨ 2524 ≤ k) → A k = a k) : svB a (up g' 135 4 v 135) x := by
  obtain ⟨a1, a2, a3, a4, a5, a6, a7, a8, a9⟩ := h
  refine ⟨⟨?_, ?_⟩, fun k hk => ?_, fun p hp k hk => ?_, fun c hc k hk => ?_, fun k hk => ?_⟩
  · rw [up_at, if_neg (by omega), a3.1, ha 0 (by omega) (by omega)]
  · rw [up_at, if_neg (by omega), a3.2, ha 1 (by omega) (by omega)]
  · rw [up_at, if_neg (by omega), a4 k hk, ha _ (by omega) (by omega)]
  · rw [up_at, if_neg (by omega), a5 p hp k hk, ha _ (by omega) (by omega)]
  · rw [up_at, if_neg (by omega), a7 c hc k hk, ha _ (by omega) (by omega)]
  · rw [up_at, if_neg (by omega), a9 k hk, ha _ (by omega) (by omega)]
theorem s_X12_keep {d : Nat} {dd : List (Nat × Nat)} {sh : Nat → Nat → Nat} {g : Nat → Nat → Int} {K : (Nat → Nat → Int) → Prop} {n : Nat} (hn : g 135 4 = n) (hn2 : n ≤ 30) (hK : ∀ g', (∀ q, q ≠ 135 → g' q = g q) → keepB (g 135) (g' 135) n → K g') : cV (d + 2) m_X12_keep [(vR 134)] dd sh g K := by
  refine mkV (ls := [some (vR 134), none, none, none]) rfl rfl rfl rfl rfl (r_X12_keep_0 ?_)
  by_cases h30 : n = 30
  · have h13 : rV (d + 1) m_X12_keep 13 [some (vR 134), some (vI 0), none, none] [] dd sh g K := by
      refine loop (P := fun k => ∀ g', (∀ q, q ≠ 135 → g' q = g q) → (∀ j, j < 184 ∨ 184 + k ≤ j → g' 135 j = g 135 j) → (∀ j, 184 ≤ j → j < 184 + k → g' 135 j = g 135 (j + 78)) → rV (d + 1) m_X12_keep 13 [some (vR 134), some (vI ((k : Int))), none, none] [] dd sh (g') K) (n := 2262) ?_ ?_ 0 (by omega) g (fun q hq => rfl) (fun j hj => rfl) (fun j hj hj2 => absurd hj2 (by omega))
      · intro g' f1 f2 f3
        refine r_X12_keep_13 ?_
        rw [f2 4 (by omega), f2 0 (by omega), hn, h30]
        refine ⟨⟨by decide, by decide⟩, fun _ => ⟨by decide, by decide, by decide, by decide, ?_⟩, fun h => absurd h (by decide)⟩
        rw [show (184 + 78 * (((30 : Nat) : Int) - 1)).toNat = 2446 from rfl, show (184 + 78 * (((30 : Nat) : Int) - 1) + 1).toNat = 2447 from rfl, show (184 + 78 * (((30 : Nat) : Int) - 1)) = ((2446 : Nat) : Int) from rfl]
        refine s_keep98 (g0 := g) (A := up g' 135 4 29 135) (by omega) ⟨fun q hq => by rw [up_off hq, up_off hq, up_off hq, f1 q hq], fun k hk => ?_, ⟨?_, ?_⟩, fun p hp => absurd hp (by omega), fun p hp => absurd hp (by omega), fun p hp => absurd hp (by omega), fun p hp => absurd hp (by omega), fun p hp => absurd hp (by omega), fun p hp => absurd hp (by omega)⟩ fun g'' h => ?_
        · rw [up_at, if_neg (by omega), up_at, if_neg (by omega)]; rfl
        · rw [up_at, if_neg (by omega), up_at, if_pos rfl, up_at, if_neg (by omega), f2 0 (by omega)]
        · rw [up_at, if_pos rfl, up_at, if_neg (by omega), up_at, if_neg (by omega)]; rfl
        · refine hK _ (fun q hq => by rw [up_off hq, h.1 q hq]) ⟨fun k hk hk2 => ?_, Or.inl ⟨h30, ?_, fun k hk hk2 => ?_, ?_⟩⟩
          · rw [up_at, if_neg (by omega), h.2.1 k (by omega), up_at, if_neg (by omega), f2 k (by omega)]
          · rw [up_at, if_pos rfl, h.2.1 4 (by omega), up_at, if_pos rfl]; rfl
          · rw [up_at, if_neg (by omega), h.2.1 k (by omega), up_at, if_neg (by omega), f3 k (by omega) (by omega)]
          · exact h.sv (by omega) fun k hk hk2 => by rw [up_at, if_neg hk, f2 k (by omega)]
      · intro k hk ih g' f1 f2 f3
        have hh := ih (up g' 135 (184 + k) (g' 135 (262 + k))) (fun q hq => by rw [up_off hq, f1 q hq]) (fun j hj => by rw [up_at, if_neg (by omega), f2 j (by omega)]) (fun j hj hj2 => by
          by_cases hjk : j = 184 + k
          · subst hjk
            rw [up_at, if_pos rfl, f2 _ (by omega)]; congr 1; omega
          · rw [up_at, if_neg hjk, f3 j hj (by omega)])
        refine r_X12_keep_13 ?_
        rw [show (262 + (k : Int)).toNat = 262 + k by omega, show (184 + (k : Int)).toNat = 184 + k by omega]
        exact ⟨⟨by omega, by omega⟩, fun h => absurd h (by omega), fun _ => ⟨by omega, by omega, by omega, by omega, hh⟩⟩
    exact ⟨⟨by omega, by omega⟩, fun h => absurd (show g 135 4 = 30 by omega) h, fun _ => h13⟩
  · have h98 : rV (d + 1) m_X12_keep 98 [some (vR 134), some (vI ((184 + 78 * n : Nat) : Int)), some (vI 0), none] [] dd sh (up (up g 135 (184 + 78 * n) (g 135 0)) 135 (185 + 78 * n) (g 135 1)) K := by
      refine s_keep98 (g0 := g) (A := g 135) (by omega) ⟨fun q hq => by rw [up_off hq, up_off hq], fun k hk => ?_, ⟨?_, ?_⟩, fun p hp => absurd hp (by omega), fun p hp => absurd hp (by omega), fun p hp => absurd hp (by omega), fun p hp => absurd hp (by omega), fun p hp => absurd hp (by omega), fun p hp => absurd hp (by omega)⟩ fun g'' h => ?_
      · rw [up_at, if_neg (by omega), up_at, if_neg (by omega)]
      · rw [up_at, if_neg (by omega), up_at, if_pos rfl]
      · rw [up_at, if_pos (by omega)]
      · refine hK _ (fun q hq => by rw [up_off hq, h.1 q hq]) ⟨fun k hk hk2 => ?_, Or.inr ⟨by omega, ?_, fun k hk hk2 => ?_, ?_⟩⟩
        · rw [up_at, if_neg (by omega), h.2.1 k (by omega)]
        · rw [up_at, if_pos rfl, h.2.1 4 (by omega), hn]
        · rw [up_at, if_neg (by omega), h.2.1 k (by omega)]
        · exact h.sv (by omega) fun k hk hk2 => rfl
    rw [hn]
    refine ⟨⟨by omega, by omega⟩, fun _ => ⟨by omega, by omega, by omega, by omega, ?_⟩, fun h => absurd h (by omega)⟩
    rw [show (184 + 78 * (n : Int)).toNat = 184 + 78 * n by omega, show (184 + 78 * (n : Int) + 1).toNat = 185 + 78 * n by omega, show (184 + 78 * (n : Int)) = ((184 + 78 * n : Nat) : Int) by omega, up_at, if_neg (by omega)]
    exact h98
