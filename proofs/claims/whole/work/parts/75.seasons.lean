-- seasons: what one draw does but for a night
noncomputable def hapA (n m : Nat) (a : Nat → Int) (x : Int) : Nat → Int :=
  if x % 6 = 0 then (if m = 0 then a else upR a (60 + 4 * (x % m).toNat) (1 - a (60 + 4 * (x % m).toNat)))
  else if x % 6 = 1 then (if m = 0 then a else if a (60 + 4 * (x % m).toNat) = 0 ∧ a (61 + 4 * (x % m).toNat) = 0 then upR a (61 + 4 * (x % m).toNat) 1 else a)
  else if x % 6 = 2 then (if n = 0 then a else upR a (20 + 7 * (x % n).toNat) (1 - a (20 + 7 * (x % n).toNat)))
  else (if n = 0 then a else @ite _ (free a (x % 40)) (Classical.propDecidable _) (upR a (18 + 7 * (x % n).toNat) (x % 40)) a)
theorem modN {x : Int} {m : Nat} (hx : 0 ≤ x) (hm : m ≠ 0) : ∃ c : Nat, x.tmod (m : Int) = (c : Int) ∧ x % (m : Int) = (c : Int) ∧ c < m := by
  have h1 := Int.emod_nonneg x (show (m : Int) ≠ 0 by omega)
  have h2 := Int.emod_lt_of_pos x (show (0 : Int) < m by omega)
  exact ⟨(x % (m : Int)).toNat, by rw [Int.tmod_eq_emod_of_nonneg hx]; omega, by omega, by omega⟩
theorem s_X5_drawScene {d : Nat} {dd : List (Nat × Nat)} {sh : Nat → Nat → Nat} {g : Nat → Nat → Int} {K : (Nat → Nat → Int) → Prop} {x : Int} {a : Nat → Int} {n m : Nat} (hS : RSc g a) (hm : a 1 = m) (hx : 0 ≤ x ∧ x ≤ 30402) (h6 : x % 6 = 0 ∨ x % 6 = 1) (hK : ∀ g', (∀ q, q ≠ 3 → g' q = g q) → RSc g' (hapA n m a x) → K g') : cV (d + 4) m_X5_drawScene [(vR 118), (vI (x % 6)), (vI x)] dd sh g K := by
  have em := hS.m
  refine mkV (ls := [some (vR 118), some (vI (x % 6)), some (vI x), none]) rfl rfl rfl rfl rfl (r_X5_drawScene_0 ?_)
  rw [em.1, hm]
  refine ⟨⟨by omega, by omega⟩, fun h => ?_, fun h => ?_⟩
  · obtain ⟨c, c1, c2, c3⟩ := modN (m := m) hx.1 (by omega)
    rw [c1, show ((c : Int)).toNat = c from rfl]
    refine ⟨⟨by omega, by omega⟩, by omega, ⟨by omega, by omega⟩, fun h9 => ?_, fun h9 => ⟨by omega, by omega, ?_⟩⟩
    · have e : hapA n m a x = if a (60 + 4 * c) = 0 ∧ a (61 + 4 * c) = 0 then upR a (61 + 4 * c) 1 else a := by
        unfold hapA
        rw [if_neg (by omega), if_pos (by omega), if_neg (by omega), c2]; rfl
      rw [e] at hK
      refine s_X7_canEncore hS (c := c) (by omega) (by omega) (fun y1 y2 => ⟨⟨by decide, by decide⟩, fun h => absurd h (by decide), fun _ => ⟨by omega, by omega, ?_⟩⟩) (fun y => ⟨⟨by decide, by decide⟩, fun _ => ?_, fun h => absurd rfl h⟩)
      · rw [if_pos ⟨y1, y2⟩] at hK
        exact hK _ (fun q hq => up_off hq) (RS.enc (s := g 3) hS (by omega) (by omega) (fun k hk => by rw [up_at, if_neg hk]) (by rw [up_at, if_pos rfl]))
      · rw [if_neg (by omega)] at hK
        exact hK g (fun _ _ => rfl) hS
    · have e : hapA n m a x = upR a (60 + 4 * c) (1 - a (60 + 4 * c)) := by
        unfold hapA
        rw [if_pos h9, if_neg (by omega), c2]; rfl
      rw [e] at hK
      exact hK _ (fun q hq => up_off hq) (RS.cut (s := g 3) hS (by omega) (by omega) (fun k hk => by rw [up_at, if_neg hk]) (by rw [up_at, if_pos rfl]))
  · have e : hapA n m a x = a := by
      unfold hapA
      rcases h6 with h9 | h9
      · rw [if_pos h9, if_pos (by omega)]
      · rw [if_neg (by omega), if_pos h9, if_pos (by omega)]
    rw [e] at hK
    exact hK g (fun _ _ => rfl) hS
theorem s_X5_drawSuspect {d : Nat} {dd : List (Nat × Nat)} {sh : Nat → Nat → Nat} {g : Nat → Nat → Int} {K : (Nat → Nat → Int) → Prop} {x : Int} {a : Nat → Int} {n m : Nat} (hS : RSc g a) (hn : a 0 = n) (hx : 0 ≤ x ∧ x ≤ 30402) (h6 : x % 6 = 2 ∨ x % 6 = 3) (hK : ∀ g', (∀ q, q ≠ 3 → q ≠ 5 → g' q = g q) → RSc g' (hapA n m a x) → K g') : cV (d + 4) m_X5_drawSuspect [(vR 118), (vI (x % 6)), (vI x)] dd sh g K := by
  have en := hS.n
  refine mkV (ls := [some (vR 118), some (vI (x % 6)), some (vI x), none]) rfl rfl rfl rfl rfl (r_X5_drawSuspect_0 ?_)
  rw [en.1, hn]
  refine ⟨⟨by omega, by omega⟩, fun h => ?_, fun h => ?_⟩
  · obtain ⟨c, c1, c2, c3⟩ := modN (m := n) hx.1 (by omega)
    rw [c1, show ((c : Int)).toNat = c from rfl, Int.tmod_eq_emod_of_nonneg (a := x) (b := 40) hx.1]
    refine ⟨⟨by omega, by omega⟩, by omega, ⟨by omega, by omega⟩, fun h9 => ?_, fun h9 => ⟨by omega, by omega, ?_⟩⟩
    · have e : hapA n m a x = @ite _ (free a (x % 40)) (Classical.propDecidable _) (upR a (18 + 7 * c) (x % 40)) a := by
        unfold hapA
        rw [if_neg (by omega), if_neg (by omega), if_neg (by omega), if_neg (by omega), c2]; rfl
      rw [e] at hK
      refine s_X7_hasSuspect hS ⟨by omega, by omega⟩ (fun _ _ => ⟨⟨by decide, by decide⟩, fun h => absurd h (by decide), fun _ => ?_⟩) (fun h => absurd h (by omega))
      refine s_X7_isFree hS ⟨by omega, by omega⟩ (fun hf => ⟨⟨by decide, by decide⟩, fun h => absurd h (by decide), fun _ => ⟨by omega, by omega, ?_⟩⟩) (fun hf => ⟨⟨by decide, by decide⟩, fun _ => ?_, fun h => absurd rfl h⟩)
      · rw [if_pos hf] at hK
        exact hK _ (fun q _ hq => up_off hq) (RS.seat (se := g 5) hS (by omega) (by omega) (by omega) (fun k hk => by rw [up_at, if_neg hk]) (by rw [up_at, if_pos rfl]))
      · rw [if_neg hf] at hK
        exact hK g (fun _ _ _ => rfl) hS
    · have e : hapA n m a x = upR a (20 + 7 * c) (1 - a (20 + 7 * c)) := by
        unfold hapA
        rw [if_neg (by omega), if_neg (by omega), if_pos h9, if_neg (by omega), c2]; rfl
      rw [e] at hK
      exact hK _ (fun q hq _ => up_off hq) (RS.away (s := g 3) hS (by omega) (by omega) (fun k hk => by rw [up_at, if_neg hk]) (by rw [up_at, if_pos rfl]))
  · have e : hapA n m a x = a := by
      unfold hapA
      rcases h6 with h9 | h9
      · rw [if_neg (by omega), if_neg (by omega), if_pos h9, if_pos (by omega)]
      · rw [if_neg (by omega), if_neg (by omega), if_neg (by omega), if_pos (by omega)]
    rw [e] at hK
    exact hK g (fun _ _ _ => rfl) hS
