-- what one draw does to the reference
noncomputable def hapS (T : Nat → Int) (n m : Nat) (s : ST) (x : Int) : ST := if 3 < x % 6 then (if 9999 ≤ s.1 10 then s else paS true T n m s) else (hapA n m s.1 x, s.2)
theorem s_X12_happens {d : Nat} {dd : List (Nat × Nat)} {sh : Nat → Nat → Nat} {g : Nat → Nat → Int} {K : (Nat → Nat → Int) → Prop} {g1 : Nat → Nat → Int} {a0 : Nat → Int} {n m : Nat} {s : ST} {x : Int} (hX : RXt dd sh g1 a0 (g1 137)) (ht : -1 ≤ a0 3 ∧ a0 3 < a0 2) (h2 : 0 ≤ a0 2 ∧ a0 2 ≤ 4) (l2 : s.1 2 = a0 2) (l3 : s.1 3 = a0 3) (hn : s.1 0 = n) (hm : s.1 1 = m) (hA : AB s.1) (h : PR g1 g s) (hw : g1 134 22 = 1) (hx : 0 ≤ x ∧ x ≤ 30402) (hK : ∀ g', PR g1 g' (hapS (g1 137) n m s x) → K g') : cV (d + 8) m_X12_happens [(vR 134), (vI x)] dd sh g K := by
  have en := hA.n
  have em := hA.m
  have hnt := hA.night
  have e5 : g 135 = s.1 := h.2.2.1
  have te : x.tmod 6 = x % 6 := Int.tmod_eq_emod_of_nonneg hx.1
  have same : hapS (g1 137) n m s x = s → K g := fun e => by rw [e] at hK; exact hK g h
  have done : ∀ b g', PR g1 g' (b, s.2) → hapS (g1 137) n m s x = (b, s.2) → rV (d + 7) m_X12_happens 193 [none, none, none, none] [] dd sh (g') K := fun b g' hp e => r_X12_happens_193 (by rw [e] at hK; exact hK g' hp)
  have dsame : hapS (g1 137) n m s x = s → rV (d + 7) m_X12_happens 193 [none, none, none, none] [] dd sh g K := fun e => r_X12_happens_193 (same e)
  have lo : x % 6 ≤ 3 → hapS (g1 137) n m s x = (hapA n m s.1 x, s.2) := fun h => by unfold hapS; rw [if_neg (by omega)]
  have t176 : 3 < x % 6 → rV (d + 7) m_X12_happens 176 [some (vR 134), none, none, none] [] dd sh g K := by
    intro h6
    refine r_X12_happens_176 ?_
    rw [e5]
    refine ⟨⟨by omega, by omega⟩, fun h9 => dsame (by unfold hapS; rw [if_pos h6, if_pos h9]), fun h9 => ?_⟩
    refine s_X12_pass (g0 := g1) (a0 := s.1) (w := true) (n := n) (m := m) (s := s) (hX.fr l2 fun _ _ => rfl) (by rw [l3, l2]; exact ht) (by rw [l2]; exact h2) hn hm (fun _ _ _ _ => rfl) hA h (by rw [hw]; rfl) fun g3 h3 => r_X12_happens_193 (hK g3 ?_)
    have e : hapS (g1 137) n m s x = paS true (g1 137) n m s := by unfold hapS; rw [if_pos h6, if_neg (by omega)]
    rw [e]; exact h3
  have t80 : ∀ v, x % 6 = 0 → (m = 0 ∧ v = -1 ∨ m ≠ 0 ∧ v = x.tmod (m : Int)) → rV (d + 7) m_X12_happens 80 [some (vR 134), none, some (vI v), none] [] dd sh g K := by
    intro v h6 hv
    rcases hv with ⟨hz, rfl⟩ | ⟨hz, rfl⟩
    · refine r_X12_happens_80 ⟨⟨by decide, by decide⟩, fun _ => dsame ?_, fun h => absurd rfl h⟩
      rw [lo (by omega)]
      unfold hapA
      rw [if_pos h6, if_pos hz]
    · obtain ⟨c, c1, c2, c3⟩ := modN (m := m) hx.1 hz
      rw [c1]
      refine r_X12_happens_80 ⟨⟨by omega, by omega⟩, fun h => absurd h (by omega), fun _ => s_of2 (by omega) (s_lay2 (by omega) ?_)⟩
      rw [e5]
      refine done _ _ h.up ?_
      rw [lo (by omega)]
      unfold hapA
      rw [if_pos h6, if_neg hz, c2]; rfl
  have t102 : ∀ v, x % 6 = 1 → (m = 0 ∧ v = -1 ∨ m ≠ 0 ∧ v = x.tmod (m : Int)) → rV (d + 7) m_X12_happens 102 [some (vR 134), none, some (vI v), none] [] dd sh g K := by
    intro v h6 hv
    rcases hv with ⟨hz, rfl⟩ | ⟨hz, rfl⟩
    · refine r_X12_happens_102 ⟨⟨by decide, by decide⟩, fun _ => dsame ?_, fun h => absurd rfl h⟩
      rw [lo (by omega)]
      unfold hapA
      rw [if_neg (by omega), if_pos h6, if_pos hz]
    · obtain ⟨c, c1, c2, c3⟩ := modN (m := m) hx.1 hz
      have hcc := hA.cc c (by omega) (by omega)
      have e : hapA n m s.1 x = if s.1 (60 + 4 * c) = 0 ∧ s.1 (61 + 4 * c) = 0 then upR s.1 (61 + 4 * c) 1 else s.1 := by
        unfold hapA
        rw [if_neg (by omega), if_pos h6, if_neg hz, c2]; rfl
      rw [c1]
      refine r_X12_happens_102 ⟨⟨by omega, by omega⟩, fun h => absurd h (by omega), fun _ => ?_⟩
      refine mkI (ls := [some (vR 134), some (vI ((c : Int)))]) rfl rfl rfl rfl rfl (r_X12_canEncore_0 ?_)
      refine s_of2 (by omega) ?_
      rw [e5]
      refine ⟨⟨by omega, by omega⟩, fun y => ?_, fun y => ?_⟩
      all_goals first
        | (refine s_of3 (by omega) ?_
           rw [e5]
           refine ⟨⟨by omega, by omega⟩, fun z => ?_, fun z => ?_⟩
           all_goals first
             | exact ⟨⟨by decide, by decide⟩, fun h => absurd h (by decide), fun _ => s_lay3 (by omega) (done _ _ h.up (by rw [lo (by omega), e, if_pos (by omega)]))⟩
             | exact ⟨⟨by decide, by decide⟩, fun _ => dsame (by rw [lo (by omega), e, if_neg (by omega)]), fun h => absurd rfl h⟩)
        | exact ⟨⟨by decide, by decide⟩, fun _ => dsame (by rw [lo (by omega), e, if_neg (by omega)]), fun h => absurd rfl h⟩
  have t125 : ∀ v, x % 6 = 2 → (n = 0 ∧ v = -1 ∨ n ≠ 0 ∧ v = x.tmod (n : Int)) → rV (d + 7) m_X12_happens 125 [some (vR 134), none, none, some (vI v)] [] dd sh g K := by
    intro v h6 hv
    rcases hv with ⟨hz, rfl⟩ | ⟨hz, rfl⟩
    · refine r_X12_happens_125 ⟨⟨by decide, by decide⟩, fun _ => dsame ?_, fun h => absurd rfl h⟩
      rw [lo (by omega)]
      unfold hapA
      rw [if_neg (by omega), if_neg (by omega), if_pos h6, if_pos hz]
    · obtain ⟨c, c1, c2, c3⟩ := modN (m := n) hx.1 hz
      rw [c1]
      refine r_X12_happens_125 ⟨⟨by omega, by omega⟩, fun h => absurd h (by omega), fun _ => s_get4 (by omega) (s_put4 (by omega) ?_)⟩
      rw [e5]
      refine done _ _ h.up ?_
      rw [lo (by omega)]
      unfold hapA
      rw [if_neg (by omega), if_neg (by omega), if_pos h6, if_neg hz, c2]; rfl
  have t147 : ∀ v, x % 6 = 3 → (n = 0 ∧ v = -1 ∨ n ≠ 0 ∧ v = x.tmod (n : Int)) → rV (d + 7) m_X12_happens 147 [some (vR 134), some (vI x), none, some (vI v)] [] dd sh g K := by
    intro v h6 hv
    rcases hv with ⟨hz, rfl⟩ | ⟨hz, rfl⟩
    · refine r_X12_happens_147 ⟨⟨by decide, by decide⟩, fun _ => dsame ?_, fun h => absurd rfl h⟩
      rw [lo (by omega)]
      unfold hapA
      rw [if_neg (by omega), if_neg (by omega), if_neg (by omega), if_pos hz]
    · obtain ⟨c, c1, c2, c3⟩ := modN (m := n) hx.1 hz
      have e : hapA n m s.1 x = @ite _ (free s.1 (x % 40)) (Classical.propDecidable _) (upR s.1 (18 + 7 * c) (x % 40)) s.1 := by
        unfold hapA
        rw [if_neg (by omega), if_neg (by omega), if_neg (by omega), if_neg hz, c2]; rfl
      rw [c1]
      refine r_X12_happens_147 ?_
      rw [Int.tmod_eq_emod_of_nonneg (a := x) (b := 40) hx.1]
      refine ⟨⟨by omega, by omega⟩, fun h => absurd h (by omega), fun _ => ⟨⟨by omega, by omega⟩, ?_⟩⟩
      refine s_X12_isFree (by rw [e5]; exact hA) ⟨by omega, by omega⟩ (fun hf => ⟨⟨by decide, by decide⟩, fun h => absurd h (by decide), fun _ => s_put2 (by omega) ?_⟩) (fun hf => ⟨⟨by decide, by decide⟩, fun _ => dsame ?_, fun h => absurd rfl h⟩)
      · rw [e5] at hf
        exact done _ _ h.up (by rw [lo (by omega), e, if_pos hf])
      · rw [e5] at hf
        rw [lo (by omega), e, if_neg hf]
  refine mkV (ls := [some (vR 134), some (vI x), none, none]) rfl rfl rfl rfl rfl (r_X12_happens_0 ?_)
  rw [e5, hn, hm, te]
  refine ⟨⟨by omega, by omega⟩, fun hm0 => ⟨⟨by omega, by omega⟩, by omega, ⟨by omega, by omega⟩, fun hn0 => ?_, fun hn0 => ⟨⟨by omega, by omega⟩, fun h6 => t176 (by omega), fun h6 => t80 _ h6 (Or.inr ⟨by omega, rfl⟩), fun h6 => t102 _ h6 (Or.inr ⟨by omega, rfl⟩), fun h6 => t125 _ h6 (Or.inl ⟨by omega, rfl⟩), fun h6 => t147 _ h6 (Or.inl ⟨by omega, rfl⟩)⟩⟩, fun hm0 => ⟨⟨by omega, by omega⟩, fun hn0 => ?_, fun hn0 => ⟨⟨by omega, by omega⟩, ⟨by omega, by omega⟩, fun h6 => t176 (by omega), fun h6 => t80 _ h6 (Or.inl ⟨by omega, rfl⟩), fun h6 => t102 _ h6 (Or.inl ⟨by omega, rfl⟩), fun h6 => t125 _ h6 (Or.inl ⟨by omega, rfl⟩), fun h6 => t147 _ h6 (Or.inl ⟨by omega, rfl⟩)⟩⟩⟩
  · refine r_X12_happens_35 ?_
    rw [e5, hn, te]
    exact ⟨⟨by omega, by omega⟩, ⟨by omega, by omega⟩, by omega, ⟨by omega, by omega⟩, fun h6 => t176 (by omega), fun h6 => t80 _ h6 (Or.inr ⟨by omega, rfl⟩), fun h6 => t102 _ h6 (Or.inr ⟨by omega, rfl⟩), fun h6 => t125 _ h6 (Or.inr ⟨by omega, rfl⟩), fun h6 => t147 _ h6 (Or.inr ⟨by omega, rfl⟩)⟩
  · refine r_X12_happens_35 ?_
    rw [e5, hn, te]
    exact ⟨⟨by omega, by omega⟩, ⟨by omega, by omega⟩, by omega, ⟨by omega, by omega⟩, fun h6 => t176 (by omega), fun h6 => t80 _ h6 (Or.inl ⟨by omega, rfl⟩), fun h6 => t102 _ h6 (Or.inl ⟨by omega, rfl⟩), fun h6 => t125 _ h6 (Or.inr ⟨by omega, rfl⟩), fun h6 => t147 _ h6 (Or.inr ⟨by omega, rfl⟩)⟩
