-- members of a set, in their order
theorem cnt_b (s : Int) (k : Nat) : 0 ≤ sm (bt s) k ∧ sm (bt s) k ≤ k := by
  have := sm_bound (f := bt s) (n := k) (B := 1) fun j _ => bt01 s j
  omega
theorem s_X12_layMembers {d : Nat} {dd : List (Nat × Nat)} {sh : Nat → Nat → Nat} {g : Nat → Nat → Int} {K : Int → (Nat → Nat → Int) → Prop} {s : Int} (h0 : 0 ≤ s ∧ s ≤ 2147483647) (hK : ∀ g', (∀ q, q ≠ 143 → q ≠ 144 → g' q = g q) → (∀ i : Nat, i < 7 → bt s i = 1 → g' 143 (sm (bt s) i).toNat = (i : Int)) → (∀ j : Nat, (j : Int) < sm (bt s) 7 → g' 144 j = (j : Int)) → K (sm (bt s) 7) g') : cI (d + 2) m_X12_layMembers [(vR 134), (vI s)] dd sh g K := by
  refine mkI (ls := [some (vR 134), some (vI s), none, none]) rfl rfl rfl rfl rfl (r_X12_layMembers_0 ?_)
  refine loop (P := fun k => ∀ g', (∀ q, q ≠ 143 → q ≠ 144 → g' q = g q) → (∀ i : Nat, i < k → bt s i = 1 → g' 143 (sm (bt s) i).toNat = (i : Int)) → (∀ j : Nat, (j : Int) < sm (bt s) k → g' 144 j = (j : Int)) → rI (d + 1) m_X12_layMembers 4 [some (vR 134), some (vI s), some (vI (sm (bt s) k)), some (vI ((k : Int)))] [] dd sh (g') K) (n := 7) ?_ ?_ 0 (by omega) g (fun _ _ _ => rfl) (fun i hi => absurd hi (by omega)) (fun j hj => by have hj' : (j : Int) < 0 := hj; omega)
  · intro g' f1 f2 f3
    exact r_X12_layMembers_4 ⟨⟨by decide, by decide⟩, fun _ => hK g' f1 f2 f3, fun h => absurd h (by decide)⟩
  · intro k hk ih g' f1 f2 f3
    have hc := cnt_b s k
    have hst : sm (bt s) (k + 1) = sm (bt s) k + bt s k := rfl
    refine r_X12_layMembers_4 ⟨⟨by omega, by omega⟩, fun h => absurd h (by omega), fun _ => ?_⟩
    refine s_X12_has h0.1 h0.2 (by omega) (by omega) fun r er r0 r1 => ⟨⟨by omega, by omega⟩, fun h => ⟨by omega, by omega, by omega, ?_⟩, fun h => ?_⟩
    · have eb : bt s k = 1 := by rw [show ((k : Int)).toNat = k from rfl] at er; omega
      rw [eb] at hst
      have hh := ih (up (up g' 143 (sm (bt s) k).toNat (k : Int)) 144 (sm (bt s) k).toNat (sm (bt s) k)) (fun q q1 q2 => by rw [up_off q2, up_off q1]; exact f1 q q1 q2) (fun i hi hb => by
        rw [up_off (by decide), up_at]
        by_cases hik : i = k
        · subst hik; rw [if_pos rfl]
        · have h1 := bt_sum_le s (show i + 1 ≤ k by omega)
          have h2 : sm (bt s) (i + 1) = sm (bt s) i + bt s i := rfl
          have h3 := cnt_b s i
          rw [if_neg (by omega)]
          exact f2 i (by omega) hb) (fun j hj => by
        rw [up_at]
        by_cases hjk : j = (sm (bt s) k).toNat
        · rw [if_pos hjk]; omega
        · rw [if_neg hjk, up_off (by decide)]; exact f3 j (by omega))
      rw [hst] at hh
      exact hh
    · have eb : bt s k = 0 := by rw [show ((k : Int)).toNat = k from rfl] at er; omega
      rw [eb, Int.add_zero] at hst
      have hh := ih g' f1 (fun i hi hb => by
        by_cases hik : i = k
        · subst hik; omega
        · exact f2 i (by omega) hb) (fun j hj => f3 j (by rw [← hst]; exact hj))
      rw [hst] at hh
      exact hh
