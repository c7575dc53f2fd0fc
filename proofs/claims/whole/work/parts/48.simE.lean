-- seats and scenes: what is asked of them
def takenP (a : Nat → Int) (v : Int) : Prop := ∃ p : Nat, p < 6 ∧ (p : Int) < a 0 ∧ a (18 + 7 * p) = v ∧ a (20 + 7 * p) = 1
noncomputable def tkF (a : Nat → Int) (r : Int) (k : Nat) : Int := @ite Int (takenP a (10 * r + k)) (Classical.propDecidable _) 0 1
set_option maxRecDepth 8000 in
theorem s_X7_isTaken {d : Nat} {dd : List (Nat × Nat)} {sh : Nat → Nat → Nat} {g : Nat → Nat → Int} {K : Int → (Nat → Nat → Int) → Prop} {v1 : Int} {a : Nat → Int} (hS : RSc g a) (h : i32 v1) (hK : takenP a v1 → K 1 g) (hK0 : ¬ takenP a v1 → K 0 g) : cI (d + 3) m_X7_isTaken [(vR 3), (vI v1)] dd sh g K := by
  refine mkI (ls := [some (vR 3), some (vI v1), none]) rfl rfl rfl rfl rfl (r_X7_isTaken_0 ?_)
  have hn := hS.n
  obtain ⟨n, hN⟩ := Int.eq_ofNat_of_zero_le hn.2.1
  refine loop (P := fun k => (∀ p : Nat, p < k → ¬ (a (18 + 7 * p) = v1 ∧ a (20 + 7 * p) = 1)) → rI (d + 2) m_X7_isTaken 2 [some (vR 3), some (vI v1), some (vI ((k : Int)))] [] dd sh g K) (n := n) ?_ ?_ 0 (by omega) (fun p hp => absurd hp (by omega))
  · intro hall
    have hf : ¬ takenP a v1 := fun ⟨p, h1, h2, h3⟩ => hall p (by omega) h3
    refine r_X7_isTaken_2 ?_
    repeat' (first
      | (refine imp_mk ?_; intro hh; first | contradiction | (exfalso; omega) | skip)
      | (exact hK0 hf)
      | refine And.intro ?_ ?_
      | omega)
  · intro k hk ih hall
    have hpp := hS.pp k (by omega) (by omega)
    have hpb := hS.pb k (by omega)
    have e1 := hpp.2.2.1
    have e2 := (hS.ab.pp k (by omega) (by omega)).2.2.2.2.1
    refine r_X7_isTaken_2 ?_
    rw [show ((k : Int)).toNat = k from rfl]
    by_cases he : a (18 + 7 * k) = v1 ∧ a (20 + 7 * k) = 1
    · have hf : takenP a v1 := ⟨k, by omega, by omega, he⟩
      repeat' (first
        | (refine imp_mk ?_; intro hh; first | contradiction | (exfalso; omega) | skip)
        | (refine s_X7_comes hS (by omega) (by omega) (fun r _ _ _ => ?_))
        | (exact hK hf)
        | refine And.intro ?_ ?_
        | omega)
    · have ih' := ih fun p hp => by
        by_cases hpk : p = k
        · rw [hpk]; exact he
        · exact hall p (by omega)
      repeat' (first
        | (refine imp_mk ?_; intro hh; first | contradiction | (exfalso; omega) | skip)
        | (refine s_X7_comes hS (by omega) (by omega) (fun r _ _ _ => ?_))
        | (exact ih')
        | refine And.intro ?_ ?_
        | omega)
theorem s_X12_isTaken {d : Nat} {dd : List (Nat × Nat)} {sh : Nat → Nat → Nat} {g : Nat → Nat → Int} {K : Int → (Nat → Nat → Int) → Prop} {v1 : Int} (hA : AB (g 135)) (h : i32 v1) (hK : takenP (g 135) v1 → K 1 g) (hK0 : ¬ takenP (g 135) v1 → K 0 g) : cI (d + 2) m_X12_isTaken [(vR 134), (vI v1)] dd sh g K := by
  refine mkI (ls := [some (vR 134), some (vI v1), none]) rfl rfl rfl rfl rfl (r_X12_isTaken_0 ?_)
  have hn := hA.n
  obtain ⟨n, hN⟩ := Int.eq_ofNat_of_zero_le hn.1
  refine loop (P := fun k => (∀ p : Nat, p < k → ¬ (g 135 (18 + 7 * p) = v1 ∧ g 135 (20 + 7 * p) = 1)) → rI (d + 1) m_X12_isTaken 2 [some (vR 134), some (vI v1), some (vI ((k : Int)))] [] dd sh g K) (n := n) ?_ ?_ 0 (by omega) (fun p hp => absurd hp (by omega))
  · intro hall
    have hf : ¬ takenP (g 135) v1 := fun ⟨p, h1, h2, h3⟩ => hall p (by omega) h3
    refine r_X12_isTaken_2 ?_
    repeat' (first
      | (refine imp_mk ?_; intro hh; first | contradiction | (exfalso; omega) | skip)
      | (exact hK0 hf)
      | refine And.intro ?_ ?_
      | omega)
  · intro k hk ih hall
    have hpp := hA.pp k (by omega) (by omega)
    refine r_X12_isTaken_2 ?_
    by_cases he : g 135 (18 + 7 * k) = v1 ∧ g 135 (20 + 7 * k) = 1
    · have hf : takenP (g 135) v1 := ⟨k, by omega, by omega, he⟩
      repeat' (first
        | (refine imp_mk ?_; intro hh; first | contradiction | (exfalso; omega) | skip)
        | (refine s_get2 (by omega) ?_)
        | (refine s_get4 (by omega) ?_)
        | (exact hK hf)
        | refine And.intro ?_ ?_
        | omega)
    · have ih' := ih fun p hp => by
        by_cases hpk : p = k
        · rw [hpk]; exact he
        · exact hall p (by omega)
      repeat' (first
        | (refine imp_mk ?_; intro hh; first | contradiction | (exfalso; omega) | skip)
        | (refine s_get2 (by omega) ?_)
        | (refine s_get4 (by omega) ?_)
        | (exact ih')
        | refine And.intro ?_ ?_
        | omega)
set_option maxRecDepth 8000 in
theorem s_X7_emptySeats {d : Nat} {dd : List (Nat × Nat)} {sh : Nat → Nat → Nat} {g : Nat → Nat → Int} {K : Int → (Nat → Nat → Int) → Prop} {v1 : Int} {a : Nat → Int} (hS : RSc g a) (h : 0 ≤ v1 ∧ v1 ≤ 3) (hK : K (sm (tkF a v1) 10) g) : cI (d + 4) m_X7_emptySeats [(vR 3), (vI v1)] dd sh g K := by
  refine mkI (ls := [some (vR 3), some (vI v1), none, none]) rfl rfl rfl rfl rfl (r_X7_emptySeats_0 ?_)
  rw [show v1 * 10 = 10 * v1 + ((0 : Nat) : Int) by omega]
  refine loop (P := fun k => rI (d + 3) m_X7_emptySeats 7 [some (vR 3), some (vI v1), some (vI (sm (tkF a v1) k)), some (vI (10 * v1 + (k : Int)))] [] dd sh g K) (n := 10) ?_ ?_ 0 (by omega)
  · refine r_X7_emptySeats_7 ?_
    repeat' (first
      | (refine imp_mk ?_; intro hh; first | contradiction | (exfalso; omega) | skip)
      | (exact hK)
      | refine And.intro ?_ ?_
      | omega)
  · intro k hk ih
    have ihx : rI (d + 3) m_X7_emptySeats 7 [some (vR 3), some (vI v1), some (vI (sm (tkF a v1) k + tkF a v1 k)), some (vI (10 * v1 + (k : Int) + 1))] [] dd sh g K := by
      rw [show 10 * v1 + (k : Int) + 1 = 10 * v1 + ((k + 1 : Nat) : Int) by omega]; exact ih
    refine r_X7_emptySeats_7 ?_
    by_cases ht : takenP a (10 * v1 + (k : Int))
    · rw [show tkF a v1 k = 0 by unfold tkF; rw [if_pos ht], Int.add_zero] at ihx
      repeat' (first
        | (refine imp_mk ?_; intro hh; first | contradiction | (exfalso; omega) | skip)
        | (refine s_X7_isTaken hS (by omega) (fun _ => ?_) (fun h => absurd ht h))
        | (exact ihx)
        | refine And.intro ?_ ?_
        | omega)
    · rw [show tkF a v1 k = 1 by unfold tkF; rw [if_neg ht]] at ihx
      repeat' (first
        | (refine imp_mk ?_; intro hh; first | contradiction | (exfalso; omega) | skip)
        | (refine s_X7_isTaken hS (by omega) (fun h => absurd h ht) (fun _ => ?_))
        | (exact ihx)
        | refine And.intro ?_ ?_
        | omega)
theorem s_X12_empty {d : Nat} {dd : List (Nat × Nat)} {sh : Nat → Nat → Nat} {g : Nat → Nat → Int} {K : Int → (Nat → Nat → Int) → Prop} {v1 : Int} (hA : AB (g 135)) (h : 0 ≤ v1 ∧ v1 ≤ 3) (hK : K (sm (tkF (g 135) v1) 10) g) : cI (d + 3) m_X12_empty [(vR 134), (vI v1)] dd sh g K := by
  refine mkI (ls := [some (vR 134), some (vI v1), none, none]) rfl rfl rfl rfl rfl (r_X12_empty_0 ?_)
  refine s_X12_isIn (by omega) (by omega) (by omega) (fun _ _ => ?_) (fun h => absurd h (by omega))
  refine ⟨⟨by decide, by decide⟩, fun _ => ?_, fun h => absurd h (by decide)⟩
  refine loop (P := fun k => rI (d + 2) m_X12_empty 15 [some (vR 134), some (vI v1), some (vI (sm (tkF (g 135) v1) k)), some (vI ((k : Int)))] [] dd sh g K) (n := 10) ?_ ?_ 0 (by omega)
  · refine r_X12_empty_15 ?_
    repeat' (first
      | (refine imp_mk ?_; intro hh; first | contradiction | (exfalso; omega) | skip)
      | (exact hK)
      | refine And.intro ?_ ?_
      | omega)
  · intro k hk ih
    have ihx : rI (d + 2) m_X12_empty 15 [some (vR 134), some (vI v1), some (vI (sm (tkF (g 135) v1) (k + 1))), some (vI (((k + 1 : Nat) : Int)))] [] dd sh g K := ih
    rw [show sm (tkF (g 135) v1) (k + 1) = sm (tkF (g 135) v1) k + (tkF (g 135) v1) k from rfl] at ihx
    have ih1 : (tkF (g 135) v1) k = 1 → rI (d + 2) m_X12_empty 15 [some (vR 134), some (vI v1), some (vI (sm (tkF (g 135) v1) k + 1)), some (vI (((k + 1 : Nat) : Int)))] [] dd sh g K := fun h9 => by have h8 := ihx; rw [h9] at h8; exact h8
    have ih0 : (tkF (g 135) v1) k = 0 → rI (d + 2) m_X12_empty 15 [some (vR 134), some (vI v1), some (vI (sm (tkF (g 135) v1) k + 0)), some (vI (((k + 1 : Nat) : Int)))] [] dd sh g K := fun h9 => by have h8 := ihx; rw [h9] at h8; exact h8
    have ih00 : (tkF (g 135) v1) k = 0 → rI (d + 2) m_X12_empty 15 [some (vR 134), some (vI v1), some (vI (sm (tkF (g 135) v1) k)), some (vI (((k + 1 : Nat) : Int)))] [] dd sh g K := fun h9 => by have h8 := ihx; rw [h9, Int.add_zero] at h8; exact h8
    refine r_X12_empty_15 ?_
    by_cases ht : takenP (g 135) (10 * v1 + (k : Int))
    · have hf := ih0 (by unfold tkF; rw [if_pos ht])
      repeat' (first
        | (refine imp_mk ?_; intro hh; first | contradiction | (exfalso; omega) | skip)
        | (refine s_X12_isTaken hA (by omega) (fun _ => ?_) (fun h => absurd ht h))
        | (exact hf)
        | refine And.intro ?_ ?_
        | omega)
    · have hf := ih1 (by unfold tkF; rw [if_neg ht])
      repeat' (first
        | (refine imp_mk ?_; intro hh; first | contradiction | (exfalso; omega) | skip)
        | (refine s_X12_isTaken hA (by omega) (fun h => absurd h ht) (fun _ => ?_))
        | (exact hf)
        | refine And.intro ?_ ?_
        | omega)
theorem tkF01 (a : Nat → Int) (r : Int) (k : Nat) : 0 ≤ tkF a r k ∧ tkF a r k ≤ 1 := by unfold tkF; split <;> omega
set_option maxRecDepth 8000 in
theorem sim_empty : S_empty := by
  intro dd sh g hI a1 h1
  have hA := hI.s.ab
  unfold SimI
  by_cases c : 0 ≤ a1 ∧ a1 ≤ 3
  · have hb := sm_bound (f := tkF (g 135) a1) (n := 10) (B := 1) fun k _ => tkF01 _ _ k
    refine mkI (ls := [some (vR 1), some (vI a1)]) rfl rfl rfl rfl rfl (r_X11_empty_0 ?_)
    repeat' (first
      | (refine imp_mk ?_; intro hh; first | contradiction | (exfalso; omega) | skip)
      | (refine s_X7_emptySeats hI.s c ?_)
      | (refine s_X12_empty hA c ?_)
      | (exact hI)
      | refine And.intro ?_ ?_
      | omega)
  · refine mkI (ls := [some (vR 1), some (vI a1)]) rfl rfl rfl rfl rfl (r_X11_empty_0 ?_)
    repeat' (first
      | (refine imp_mk ?_; intro hh; first | contradiction | (exfalso; omega) | skip)
      | (refine mkI (ls := [some (vR 134), some (vI a1), none, none]) rfl rfl rfl rfl rfl (r_X12_empty_0 ?_))
      | (refine s_X12_isIn (by omega) (by omega) (by omega) (fun _ _ => absurd c (by omega)) (fun _ => ?_))
      | (exact hI)
      | refine And.intro ?_ ?_
      | omega)
-- hottest
def hoF (a : Nat → Int) (c : Nat) : Int := if a (60 + 4 * c) = 0 then a (58 + 4 * c) else -1
theorem hoF_b {a : Nat → Int} (hA : AB a) {c : Nat} (h : (c : Int) < a 1) : -1 ≤ hoF a c ∧ hoF a c ≤ 9 := by
  have hm := hA.m
  have := hA.cc c (by omega) h
  unfold hoF
  split <;> omega
set_option maxRecDepth 8000 in
theorem s_X7_hottestGiven {d : Nat} {dd : List (Nat × Nat)} {sh : Nat → Nat → Nat} {g : Nat → Nat → Int} {K : Int → (Nat → Nat → Int) → Prop} {a : Nat → Int} {n : Nat} (hS : RSc g a) (hn : a 1 = n) (hK : K (am (hoF a) (-1) n).1 g) : cI (d + 3) m_X7_hottestGiven [(vR 3)] dd sh g K := by
  have em := hS.m
  refine mkI (ls := [some (vR 3), none, none, none]) rfl rfl rfl rfl rfl (r_X7_hottestGiven_0 ?_)
  refine loop (P := fun k => rI (d + 2) m_X7_hottestGiven 6 [some (vR 3), some (vI ((am (hoF a) (-1) k).1)), some (vI ((am (hoF a) (-1) k).2)), some (vI ((k : Int)))] [] dd sh g K) (n := n) ?_ ?_ 0 (by omega)
  · refine r_X7_hottestGiven_6 ?_
    repeat' (first
      | (refine imp_mk ?_; intro hh; first | contradiction | (exfalso; omega) | skip)
      | (exact hK)
      | refine And.intro ?_ ?_
      | omega)
  · intro k hk ih
    have ihx : rI (d + 2) m_X7_hottestGiven 6 [some (vR 3), some (vI ((am (hoF a) (-1) (k + 1)).1)), some (vI ((am (hoF a) (-1) (k + 1)).2)), some (vI (((k + 1 : Nat) : Int)))] [] dd sh g K := ih
    have ihA : (am (hoF a) (-1) k).2 < (hoF a) k → rI (d + 2) m_X7_hottestGiven 6 [some (vR 3), some (vI ((k : Int))), some (vI ((hoF a) k)), some (vI (((k + 1 : Nat) : Int)))] [] dd sh g K := fun h9 => by have h8 := ihx; rw [show am (hoF a) (-1) (k + 1) = ((k : Int), (hoF a) k) from if_pos h9] at h8; exact h8
    have ihB : ¬ (am (hoF a) (-1) k).2 < (hoF a) k → rI (d + 2) m_X7_hottestGiven 6 [some (vR 3), some (vI ((am (hoF a) (-1) k).1)), some (vI ((am (hoF a) (-1) k).2)), some (vI (((k + 1 : Nat) : Int)))] [] dd sh g K := fun h9 => by have h8 := ihx; rw [show am (hoF a) (-1) (k + 1) = am (hoF a) (-1) k from if_neg h9] at h8; exact h8
    have hcc := hS.cc k (by omega) (by omega)
    have hcb := hS.cb k (by omega)
    have hm : -1 ≤ (am (hoF a) (-1) k).2 ∧ (am (hoF a) (-1) k).2 ≤ 9 := by
      rcases am_inv (hoF a) (-1) k with e | ⟨j, hj, e, -⟩
      · rw [e]; exact ⟨Int.le_refl _, by show (-1 : Int) ≤ 9; decide⟩
      · rw [e]; exact hoF_b hS.ab (by omega)
    have h1 : a (60 + 4 * k) = 0 → hoF a k = g 8 k := fun h => by unfold hoF; rw [if_pos h]; omega
    have h0 : ¬ a (60 + 4 * k) = 0 → hoF a k = -1 := fun h => by unfold hoF; rw [if_neg h]
    refine r_X7_hottestGiven_6 ?_
    rw [show ((k : Int)).toNat = k from rfl]
    by_cases hz : a (60 + 4 * k) = 0
    · have e := h1 hz
      rw [e] at ihA ihB
      repeat' (first
        | (refine imp_mk ?_; intro hh; first | contradiction | (exfalso; omega) | skip)
        | (refine s_X7_isCut hS (by omega) (by omega) (fun r _ _ _ => ?_))
        | (exact ihA (by omega))
        | (exact ihB (by omega))
        | refine And.intro ?_ ?_
        | omega)
    · have e := h0 hz
      repeat' (first
        | (refine imp_mk ?_; intro hh; first | contradiction | (exfalso; omega) | skip)
        | (refine s_X7_isCut hS (by omega) (by omega) (fun r _ _ _ => ?_))
        | (exact ihB (by omega))
        | refine And.intro ?_ ?_
        | omega)
theorem s_X12_hottest {d : Nat} {dd : List (Nat × Nat)} {sh : Nat → Nat → Nat} {g : Nat → Nat → Int} {K : Int → (Nat → Nat → Int) → Prop} {n : Nat} (hA : AB (g 135)) (hn : g 135 1 = n) (hK : K (am (hoF (g 135)) (-1) n).1 g) : cI (d + 2) m_X12_hottest [(vR 134)] dd sh g K := by
  have em := hA.m
  refine mkI (ls := [some (vR 134), none, none]) rfl rfl rfl rfl rfl (r_X12_hottest_0 ?_)
  refine loop (P := fun k => rI (d + 1) m_X12_hottest 4 [some (vR 134), some (vI ((am (hoF (g 135)) (-1) k).1)), some (vI ((k : Int)))] [] dd sh g K) (n := n) ?_ ?_ 0 (by omega)
  · refine r_X12_hottest_4 ?_
    repeat' (first
      | (refine imp_mk ?_; intro hh; first | contradiction | (exfalso; omega) | skip)
      | (exact hK)
      | refine And.intro ?_ ?_
      | omega)
  · intro k hk ih
    have ihx : rI (d + 1) m_X12_hottest 4 [some (vR 134), some (vI ((am (hoF (g 135)) (-1) (k + 1)).1)), some (vI (((k + 1 : Nat) : Int)))] [] dd sh g K := ih
    have ihA : (am (hoF (g 135)) (-1) k).2 < (hoF (g 135)) k → rI (d + 1) m_X12_hottest 4 [some (vR 134), some (vI ((k : Int))), some (vI (((k + 1 : Nat) : Int)))] [] dd sh g K := fun h9 => by have h8 := ihx; rw [show am (hoF (g 135)) (-1) (k + 1) = ((k : Int), (hoF (g 135)) k) from if_pos h9] at h8; exact h8
    have ihB : ¬ (am (hoF (g 135)) (-1) k).2 < (hoF (g 135)) k → rI (d + 1) m_X12_hottest 4 [some (vR 134), some (vI ((am (hoF (g 135)) (-1) k).1)), some (vI (((k + 1 : Nat) : Int)))] [] dd sh g K := fun h9 => by have h8 := ihx; rw [show am (hoF (g 135)) (-1) (k + 1) = am (hoF (g 135)) (-1) k from if_neg h9] at h8; exact h8
    have hcc := hA.cc k (by omega) (by omega)
    have h1 : g 135 (60 + 4 * k) = 0 → hoF (g 135) k = g 135 (58 + 4 * k) := fun h => by unfold hoF; rw [if_pos h]
    have h0 : ¬ g 135 (60 + 4 * k) = 0 → hoF (g 135) k = -1 := fun h => by unfold hoF; rw [if_neg h]
    rcases am_inv (hoF (g 135)) (-1) k with e | ⟨j, hj, e, hj2⟩
    · have ihA' : -1 < hoF (g 135) k → rI (d + 1) m_X12_hottest 4 [some (vR 134), some (vI ((k : Int))), some (vI (((k + 1 : Nat) : Int)))] [] dd sh g K := fun h => ihA (by rw [e]; exact h)
      have ihB' : ¬ -1 < hoF (g 135) k → rI (d + 1) m_X12_hottest 4 [some (vR 134), some (vI (-1)), some (vI (((k + 1 : Nat) : Int)))] [] dd sh g K := fun h => by
        have h8 := ihB (by rw [e]; exact h)
        rw [e] at h8; exact h8
      show rI (d + 1) m_X12_hottest 4 [some (vR 134), some (vI ((am (hoF (g 135)) (-1) k).1)), some (vI ((k : Int)))] [] dd sh g K
      rw [show (am (hoF (g 135)) (-1) k).1 = -1 by rw [e]]
      refine r_X12_hottest_4 ?_
      repeat' (first
        | (refine imp_mk ?_; intro hh; first | contradiction | (exfalso; omega) | skip)
        | (refine s_of2 (by omega) ?_)
        | (exact ihA' (by omega))
        | (exact ihB' (by omega))
        | refine And.intro ?_ ?_
        | omega)
    · have ihA' : hoF (g 135) j < hoF (g 135) k → rI (d + 1) m_X12_hottest 4 [some (vR 134), some (vI ((k : Int))), some (vI (((k + 1 : Nat) : Int)))] [] dd sh g K := fun h => ihA (by rw [e]; exact h)
      have ihB' : ¬ hoF (g 135) j < hoF (g 135) k → rI (d + 1) m_X12_hottest 4 [some (vR 134), some (vI ((j : Int))), some (vI (((k + 1 : Nat) : Int)))] [] dd sh g K := fun h => by
        have h8 := ihB (by rw [e]; exact h)
        rw [e] at h8; exact h8
      have ej : hoF (g 135) j = g 135 (58 + 4 * j) := by
        unfold hoF at hj2 ⊢
        split at hj2
        · rename_i hz; rw [if_pos hz]
        · exact absurd hj2 (by decide)
      have hjj := hA.cc j (by omega) (by omega)
      show rI (d + 1) m_X12_hottest 4 [some (vR 134), some (vI ((am (hoF (g 135)) (-1) k).1)), some (vI ((k : Int)))] [] dd sh g K
      rw [show (am (hoF (g 135)) (-1) k).1 = (j : Int) by rw [e]]
      refine r_X12_hottest_4 ?_
      repeat' (first
        | (refine imp_mk ?_; intro hh; first | contradiction | (exfalso; omega) | skip)
        | (refine s_of2 (by omega) ?_)
        | (refine s_of0 (by omega) ?_)
        | (exact ihA' (by omega))
        | (exact ihB' (by omega))
        | refine And.intro ?_ ?_
        | omega)
theorem sim_hottest : S_hottest := by
  intro dd sh g hI
  have hA := hI.s.ab
  have em := hA.m
  obtain ⟨n, hn⟩ := Int.eq_ofNat_of_zero_le em.1
  unfold SimI
  refine mkI (ls := [some (vR 1)]) rfl rfl rfl rfl rfl (r_X11_hottest_0 ?_)
  refine s_X7_hottestGiven hI.s hn ?_
  refine s_X12_hottest hA hn ?_
  exact ⟨rfl, am_i32 _ _ (by omega), hI⟩
-- suspected
def suF (a : Nat → Int) (p : Nat) : Int := if a (16 + 7 * p) = 1 ∧ a (20 + 7 * p) = 1 then (1 : Int) * 2 ^ (a (18 + 7 * p) / 10).toNat else 0
theorem suF_b {a : Nat → Int} (hA : AB a) {p : Nat} (h : (p : Int) < a 0) : 0 ≤ suF a p ∧ suF a p < 2 ^ 4 := by
  have hn := hA.n
  have := hA.pp p (by omega) h
  unfold suF
  split
  · rw [Int.one_mul]
    have h1 := pow2_pos (a (18 + 7 * p) / 10).toNat
    have h2 := pow2_le (q := (a (18 + 7 * p) / 10).toNat) (p := 3) (by omega)
    omega
  · exact ⟨Int.le_refl _, by decide⟩
set_option maxRecDepth 8000 in
theorem s_X7_guiltyRows {d : Nat} {dd : List (Nat × Nat)} {sh : Nat → Nat → Nat} {g : Nat → Nat → Int} {K : Int → (Nat → Nat → Int) → Prop} {a : Nat → Int} {n : Nat} (hS : RSc g a) (hn : a 0 = n) (hK : K (fo (suF a) n) g) : cI (d + 3) m_X7_guiltyRows [(vR 3)] dd sh g K := by
  have en := hS.n
  refine mkI (ls := [some (vR 3), none, none]) rfl rfl rfl rfl rfl (r_X7_guiltyRows_0 ?_)
  refine loop (P := fun k => rI (d + 2) m_X7_guiltyRows 4 [some (vR 3), some (vI (fo (suF a) k)), some (vI ((k : Int)))] [] dd sh g K) (n := n) ?_ ?_ 0 (by omega)
  · refine r_X7_guiltyRows_4 ?_
    repeat' (first
      | (refine imp_mk ?_; intro hh; first | contradiction | (exfalso; omega) | skip)
      | (exact hK)
      | refine And.intro ?_ ?_
      | omega)
  · intro k hk ih
    have hpp := hS.pp k (by omega) (by omega)
    have hpb := hS.pb k (by omega)
    have hab := hS.ab.pp k (by omega) (by omega)
    have ihx : rI (d + 2) m_X7_guiltyRows 4 [some (vR 3), some (vI (ior (fo (suF a) k) (suF a k))), some (vI (((k + 1 : Nat) : Int)))] [] dd sh g K := ih
    have hb := fo_bound (f := suF a) (n := k) (q := 4) (by decide) fun j hj => suF_b hS.ab (by omega)
    refine r_X7_guiltyRows_4 ?_
    rw [show ((k : Int)).toNat = k from rfl]
    have etd : (g 5 k).tdiv 10 = a (18 + 7 * k) / 10 := by rw [Int.tdiv_eq_ediv_of_nonneg (by omega), hpp.2.2.1]
    have e5 := hpp.2.2.1
    by_cases hz : a (16 + 7 * k) = 1 ∧ a (20 + 7 * k) = 1
    · rw [show suF a k = (1 : Int) * 2 ^ (a (18 + 7 * k) / 10).toNat from if_pos hz] at ihx
      repeat' (first
        | (refine imp_mk ?_; intro hh; first | contradiction | (exfalso; omega) | skip)
        | (refine s_X7_isGuilty hS (by omega) (by omega) (fun r _ _ _ => ?_))
        | ((refine s_X7_comes hS (by omega) (by omega) (fun r _ _ _ => ?_); rw [etd]))
        | (exact ihx)
        | refine And.intro ?_ ?_
        | omega)
    · rw [show suF a k = 0 from if_neg hz, ior_zero hb.1 (by omega)] at ihx
      repeat' (first
        | (refine imp_mk ?_; intro hh; first | contradiction | (exfalso; omega) | skip)
        | (refine s_X7_isGuilty hS (by omega) (by omega) (fun r _ _ _ => ?_))
        | (refine s_X7_comes hS (by omega) (by omega) (fun r _ _ _ => ?_))
        | (exact ihx)
        | refine And.intro ?_ ?_
        | omega)
theorem s_X12_suspected {d : Nat} {dd : List (Nat × Nat)} {sh : Nat → Nat → Nat} {g : Nat → Nat → Int} {K : Int → (Nat → Nat → Int) → Prop} {n : Nat} (hA : AB (g 135)) (hn : g 135 0 = n) (hK : K (fo (suF (g 135)) n) g) : cI (d + 2) m_X12_suspected [(vR 134)] dd sh g K := by
  have en := hA.n
  refine mkI (ls := [some (vR 134), none, none]) rfl rfl rfl rfl rfl (r_X12_suspected_0 ?_)
  refine loop (P := fun k => rI (d + 1) m_X12_suspected 4 [some (vR 134), some (vI (fo (suF (g 135)) k)), some (vI ((k : Int)))] [] dd sh g K) (n := n) ?_ ?_ 0 (by omega)
  · refine r_X12_suspected_4 ?_
    repeat' (first
      | (refine imp_mk ?_; intro hh; first | contradiction | (exfalso; omega) | skip)
      | (exact hK)
      | refine And.intro ?_ ?_
      | omega)
  · intro k hk ih
    have hab := hA.pp k (by omega) (by omega)
    have ihx : rI (d + 1) m_X12_suspected 4 [some (vR 134), some (vI (ior (fo (suF (g 135)) k) (suF (g 135) k))), some (vI (((k + 1 : Nat) : Int)))] [] dd sh g K := ih
    refine r_X12_suspected_4 ?_
    by_cases hz : g 135 (16 + 7 * k) = 1 ∧ g 135 (20 + 7 * k) = 1
    · rw [show suF (g 135) k = (1 : Int) * 2 ^ (g 135 (18 + 7 * k) / 10).toNat from if_pos hz] at ihx
      repeat' (first
        | (refine imp_mk ?_; intro hh; first | contradiction | (exfalso; omega) | skip)
        | (refine s_get0 (by omega) ?_)
        | (refine s_get4 (by omega) ?_)
        | ((refine s_get2 (by omega) ?_; rw [Int.tdiv_eq_ediv_of_nonneg (a := g 135 (18 + 7 * k)) (b := 10) (by omega)]))
        | (exact ihx)
        | refine And.intro ?_ ?_
        | omega)
    · rw [show suF (g 135) k = 0 from if_neg hz] at ihx
      repeat' (first
        | (refine imp_mk ?_; intro hh; first | contradiction | (exfalso; omega) | skip)
        | (refine s_get0 (by omega) ?_)
        | (refine s_get4 (by omega) ?_)
        | (exact ihx)
        | refine And.intro ?_ ?_
        | omega)
theorem sim_suspected : S_suspected := by
  intro dd sh g hI
  have hA := hI.s.ab
  have en := hA.n
  obtain ⟨n, hn⟩ := Int.eq_ofNat_of_zero_le en.1
  unfold SimI
  refine mkI (ls := [some (vR 1)]) rfl rfl rfl rfl rfl (r_X11_suspected_0 ?_)
  refine s_X7_guiltyRows hI.s hn ?_
  refine s_X12_suspected hA hn ?_
  have hb := fo_bound (f := suF (g 135)) (n := n) (q := 4) (by decide) fun j hj => suF_b hA (by omega)
  exact ⟨rfl, ⟨by omega, by omega⟩, hI⟩
-- lasts
def laF (a : Nat → Int) (c : Nat) : Int := if a (60 + 4 * c) = 1 then 0 else a (59 + 4 * c) * (1 + a (61 + 4 * c))
theorem laF_b {a : Nat → Int} (hA : AB a) {c : Nat} (h : (c : Int) < a 1) : 0 ≤ laF a c ∧ laF a c ≤ 18 := by
  have hm := hA.m
  have h9 := hA.cc c (by omega) h
  unfold laF
  split
  · omega
  · rcases (show a (61 + 4 * c) = 0 ∨ a (61 + 4 * c) = 1 by omega) with e | e
    · rw [e]; omega
    · rw [e]; omega
set_option maxRecDepth 8000 in
theorem s_X7_lengthOfNight {d : Nat} {dd : List (Nat × Nat)} {sh : Nat → Nat → Nat} {g : Nat → Nat → Int} {K : Int → (Nat → Nat → Int) → Prop} {a : Nat → Int} {n : Nat} (hS : RSc g a) (hn : a 1 = n) (hK : K (sm (laF a) n) g) : cI (d + 4) m_X7_lengthOfNight [(vR 3)] dd sh g K := by
  have em := hS.m
  refine mkI (ls := [some (vR 3), none, none]) rfl rfl rfl rfl rfl (r_X7_lengthOfNight_0 ?_)
  refine loop (P := fun k => rI (d + 3) m_X7_lengthOfNight 4 [some (vR 3), some (vI (sm (laF a) k)), some (vI ((k : Int)))] [] dd sh g K) (n := n) ?_ ?_ 0 (by omega)
  · refine r_X7_lengthOfNight_4 ?_
    repeat' (first
      | (refine imp_mk ?_; intro hh; first | contradiction | (exfalso; omega) | skip)
      | (exact hK)
      | refine And.intro ?_ ?_
      | omega)
  · intro k hk ih
    have hcc := hS.cc k (by omega) (by omega)
    have hab := hS.ab.cc k (by omega) (by omega)
    have ihx : ∀ x, x = laF a k → rI (d + 3) m_X7_lengthOfNight 4 [some (vR 3), some (vI (sm (laF a) k + x)), some (vI (((k + 1 : Nat) : Int)))] [] dd sh g K := fun x hx => by rw [hx]; exact ih
    refine r_X7_lengthOfNight_4 ?_
    rw [show ((k : Int)).toNat = k from rfl, hcc.2.1]
    refine ⟨⟨by omega, by omega⟩, ⟨by omega, by omega⟩, fun h => absurd h (by omega), fun _ => ⟨by omega, by omega, ?_⟩⟩
    refine s_X7_timesGiven hS (by omega) (by omega) fun r h0 h1 h2 h3 => ihx _ ?_
    unfold laF
    split
    · rename_i hz; rw [h2 hz]; rw [Int.mul_zero]
    · rename_i hz; rw [h3 (by omega)]
theorem s_X12_lasts {d : Nat} {dd : List (Nat × Nat)} {sh : Nat → Nat → Nat} {g : Nat → Nat → Int} {K : Int → (Nat → Nat → Int) → Prop} {n : Nat} (hA : AB (g 135)) (hn : g 135 1 = n) (hK : K (sm (laF (g 135)) n) g) : cI (d + 2) m_X12_lasts [(vR 134)] dd sh g K := by
  have em := hA.m
  refine mkI (ls := [some (vR 134), none, none]) rfl rfl rfl rfl rfl (r_X12_lasts_0 ?_)
  refine loop (P := fun k => rI (d + 1) m_X12_lasts 4 [some (vR 134), some (vI (sm (laF (g 135)) k)), some (vI ((k : Int)))] [] dd sh g K) (n := n) ?_ ?_ 0 (by omega)
  · refine r_X12_lasts_4 ?_
    repeat' (first
      | (refine imp_mk ?_; intro hh; first | contradiction | (exfalso; omega) | skip)
      | (exact hK)
      | refine And.intro ?_ ?_
      | omega)
  · intro k hk ih
    have hab := hA.cc k (by omega) (by omega)
    have ihx : ∀ x, x = laF (g 135) k → rI (d + 1) m_X12_lasts 4 [some (vR 134), some (vI (sm (laF (g 135)) k + x)), some (vI (((k + 1 : Nat) : Int)))] [] dd sh g K := fun x hx => by rw [hx]; exact ih
    refine r_X12_lasts_4 ?_
    by_cases hz : g 135 (60 + 4 * k) = 1
    · have h := ihx 0 (by unfold laF; rw [if_pos hz])
      repeat' (first
        | (refine imp_mk ?_; intro hh; first | contradiction | (exfalso; omega) | skip)
        | (refine s_of2 (by omega) ?_)
        | (exact h)
        | refine And.intro ?_ ?_
        | omega)
    · have h := ihx (g 135 (59 + 4 * k) * (1 + g 135 (61 + 4 * k))) (by unfold laF; rw [if_neg hz])
      repeat' (first
        | (refine imp_mk ?_; intro hh; first | contradiction | (exfalso; omega) | skip)
        | (refine s_of2 (by omega) ?_)
        | (refine s_of1 (by omega) ?_)
        | (refine s_of3 (by omega) ?_)
        | (exact h)
        | refine And.intro ?_ ?_
        | omega)
theorem sim_lasts : S_lasts := by
  intro dd sh g hI
  have hA := hI.s.ab
  have em := hA.m
  obtain ⟨n, hn⟩ := Int.eq_ofNat_of_zero_le em.1
  unfold SimI
  refine mkI (ls := [some (vR 1)]) rfl rfl rfl rfl rfl (r_X11_lasts_0 ?_)
  refine s_X7_lengthOfNight hI.s hn ?_
  refine s_X12_lasts hA hn ?_
  have hb := sm_bound (f := laF (g 135)) (n := n) (B := 18) fun j hj => laF_b hA (by omega)
  exact ⟨rfl, ⟨by omega, by omega⟩, hI⟩
-- who faces whom
def fc (x y : Int) : Int := if x ≠ y ∧ (-1 ≤ x / 10 - y / 10 ∧ x / 10 - y / 10 ≤ 1) ∧ (-2 ≤ x % 10 - y % 10 ∧ x % 10 - y % 10 ≤ 2) then 1 else 0
theorem fc01 (x y : Int) : 0 ≤ fc x y ∧ fc x y ≤ 1 := by unfold fc; split <;> omega
theorem fc_comm (x y : Int) : fc x y = fc y x := by
  unfold fc
  by_cases h : x ≠ y ∧ (-1 ≤ x / 10 - y / 10 ∧ x / 10 - y / 10 ≤ 1) ∧ (-2 ≤ x % 10 - y % 10 ∧ x % 10 - y % 10 ≤ 2)
  · rw [if_pos h, if_pos (by omega)]
  · rw [if_neg h, if_neg (by omega)]
set_option maxRecDepth 8000 in
theorem s_X10_faces {d : Nat} {dd : List (Nat × Nat)} {sh : Nat → Nat → Nat} {g : Nat → Nat → Int} {K : Int → (Nat → Nat → Int) → Prop} {v0 v1 : Int} (h0 : 0 ≤ v0 ∧ v0 ≤ 1000) (h1 : 0 ≤ v1 ∧ v1 ≤ 1000) (hK : K (fc v0 v1) g) : cI (d + 2) m_X10_faces [(vI v0), (vI v1)] dd sh g K := by
  have t1 : (v0 ≠ v1 ∧ (-1 ≤ v0 / 10 - v1 / 10 ∧ v0 / 10 - v1 / 10 ≤ 1) ∧ (-2 ≤ v0 % 10 - v1 % 10 ∧ v0 % 10 - v1 % 10 ≤ 2)) → K 1 g := fun h => by unfold fc at hK; rw [if_pos h] at hK; exact hK
  have t0 : ¬ (v0 ≠ v1 ∧ (-1 ≤ v0 / 10 - v1 / 10 ∧ v0 / 10 - v1 / 10 ≤ 1) ∧ (-2 ≤ v0 % 10 - v1 % 10 ∧ v0 % 10 - v1 % 10 ≤ 2)) → K 0 g := fun h => by unfold fc at hK; rw [if_neg h] at hK; exact hK
  refine mkI (ls := [some (vI v0), some (vI v1), none, none]) rfl rfl rfl rfl rfl (r_X10_faces_0 ?_)
  rw [Int.tdiv_eq_ediv_of_nonneg (a := v0) h0.1, Int.tdiv_eq_ediv_of_nonneg (a := v1) h1.1, Int.tmod_eq_emod_of_nonneg (a := v0) h0.1, Int.tmod_eq_emod_of_nonneg (a := v1) h1.1]
  repeat' (first
    | (refine imp_mk ?_; intro hh; first | contradiction | (exfalso; omega) | skip)
    | (refine s_J9_abs (by omega) (fun r _ _ => ?_))
    | (exact t1 (by omega))
    | (exact t0 (by omega))
    | refine And.intro ?_ ?_
    | omega)
theorem s_X12_areFacing {d : Nat} {dd : List (Nat × Nat)} {sh : Nat → Nat → Nat} {g : Nat → Nat → Int} {K : Int → (Nat → Nat → Int) → Prop} {v0 v1 : Int} (h0 : 0 ≤ v0 ∧ v0 ≤ 1000) (h1 : 0 ≤ v1 ∧ v1 ≤ 1000) (hK : K (fc v0 v1) g) : cI (d + 2) m_X12_areFacing [(vI v0), (vI v1)] dd sh g K := by
  have t1 : (v0 ≠ v1 ∧ (-1 ≤ v0 / 10 - v1 / 10 ∧ v0 / 10 - v1 / 10 ≤ 1) ∧ (-2 ≤ v0 % 10 - v1 % 10 ∧ v0 % 10 - v1 % 10 ≤ 2)) → K 1 g := fun h => by unfold fc at hK; rw [if_pos h] at hK; exact hK
  have t0 : ¬ (v0 ≠ v1 ∧ (-1 ≤ v0 / 10 - v1 / 10 ∧ v0 / 10 - v1 / 10 ≤ 1) ∧ (-2 ≤ v0 % 10 - v1 % 10 ∧ v0 % 10 - v1 % 10 ≤ 2)) → K 0 g := fun h => by unfold fc at hK; rw [if_neg h] at hK; exact hK
  refine mkI (ls := [some (vI v0), some (vI v1)]) rfl rfl rfl rfl rfl (r_X12_areFacing_0 ?_)
  rw [Int.tdiv_eq_ediv_of_nonneg (a := v0) h0.1, Int.tdiv_eq_ediv_of_nonneg (a := v1) h1.1, Int.tmod_eq_emod_of_nonneg (a := v0) h0.1, Int.tmod_eq_emod_of_nonneg (a := v1) h1.1]
  repeat' (first
    | (refine imp_mk ?_; intro hh; first | contradiction | (exfalso; omega) | skip)
    | (refine s_X12_size (by omega) (fun r _ _ => ?_))
    | (exact t1 (by omega))
    | (exact t0 (by omega))
    | refine And.intro ?_ ?_
    | omega)
/-- how many suspects but p one on seat v faces -/
def fbF (a : Nat → Int) (p v : Int) (q : Nat) : Int := if (q : Int) = p then 0 else fc v (a (18 + 7 * q))
def fbN (a : Nat → Int) (p v : Int) : Int := sm (fbF a p v) (a 0).toNat
theorem fbF01 (a : Nat → Int) (p v : Int) (q : Nat) : 0 ≤ fbF a p v q ∧ fbF a p v q ≤ 1 := by
  have := fc01 v (a (18 + 7 * q))
  unfold fbF; split <;> omega
theorem fbN_b {a : Nat → Int} (h : 0 ≤ a 0 ∧ a 0 ≤ 6) (p v : Int) : 0 ≤ fbN a p v ∧ fbN a p v ≤ 6 := by
  have := sm_bound (f := fbF a p v) (n := (a 0).toNat) (B := 1) fun k _ => fbF01 a p v k
  unfold fbN
  omega
set_option maxRecDepth 8000 in
theorem s_X10_facedFrom {d : Nat} {dd : List (Nat × Nat)} {sh : Nat → Nat → Nat} {g : Nat → Nat → Int} {K : Int → (Nat → Nat → Int) → Prop} {v1 v2 : Int} {a : Nat → Int} (hS : RSc g a) (h1 : i32 v1) (h2 : 0 ≤ v2 ∧ v2 ≤ 39) (hK : K (fbN a v1 v2) g) : cI (d + 3) m_X10_facedFrom [(vR 128), (vI v1), (vI v2)] dd sh g K := by
  have en := hS.n
  obtain ⟨n, hn⟩ := Int.eq_ofNat_of_zero_le en.2.1
  unfold fbN at hK
  rw [show (a 0).toNat = n by omega] at hK
  refine mkI (ls := [some (vR 128), some (vI v1), some (vI v2), none, none]) rfl rfl rfl rfl rfl (r_X10_facedFrom_0 ?_)
  refine loop (P := fun k => rI (d + 2) m_X10_facedFrom 5 [some (vR 128), some (vI v1), some (vI v2), some (vI (sm (fbF a v1 v2) k)), some (vI ((k : Int)))] [] dd sh g K) (n := n) ?_ ?_ 0 (by omega)
  · refine r_X10_facedFrom_5 ?_
    repeat' (first
      | (refine imp_mk ?_; intro hh; first | contradiction | (exfalso; omega) | skip)
      | (exact hK)
      | refine And.intro ?_ ?_
      | omega)
  · intro k hk ih
    have ihx : rI (d + 2) m_X10_facedFrom 5 [some (vR 128), some (vI v1), some (vI v2), some (vI (sm (fbF a v1 v2) (k + 1))), some (vI (((k + 1 : Nat) : Int)))] [] dd sh g K := ih
    rw [show sm (fbF a v1 v2) (k + 1) = sm (fbF a v1 v2) k + (fbF a v1 v2) k from rfl] at ihx
    have ih1 : (fbF a v1 v2) k = 1 → rI (d + 2) m_X10_facedFrom 5 [some (vR 128), some (vI v1), some (vI v2), some (vI (sm (fbF a v1 v2) k + 1)), some (vI (((k + 1 : Nat) : Int)))] [] dd sh g K := fun h9 => by have h8 := ihx; rw [h9] at h8; exact h8
    have ih0 : (fbF a v1 v2) k = 0 → rI (d + 2) m_X10_facedFrom 5 [some (vR 128), some (vI v1), some (vI v2), some (vI (sm (fbF a v1 v2) k + 0)), some (vI (((k + 1 : Nat) : Int)))] [] dd sh g K := fun h9 => by have h8 := ihx; rw [h9] at h8; exact h8
    have ih00 : (fbF a v1 v2) k = 0 → rI (d + 2) m_X10_facedFrom 5 [some (vR 128), some (vI v1), some (vI v2), some (vI (sm (fbF a v1 v2) k)), some (vI (((k + 1 : Nat) : Int)))] [] dd sh g K := fun h9 => by have h8 := ihx; rw [h9, Int.add_zero] at h8; exact h8
    have hpp := hS.pp k (by omega) (by omega)
    have hpb := hS.pb k (by omega)
    have t0 : (k : Int) = v1 → fbF a v1 v2 k = 0 := fun h => if_pos h
    have t1 : ¬ (k : Int) = v1 → fbF a v1 v2 k = fc v2 (a (18 + 7 * k)) := fun h => if_neg h
    have hf := fc01 v2 (a (18 + 7 * k))
    have hab := hS.ab.pp k (by omega) (by omega)
    refine r_X10_facedFrom_5 ?_
    rw [show ((k : Int)).toNat = k from rfl, hpp.2.2.1]
    repeat' (first
      | (refine imp_mk ?_; intro hh; first | contradiction | (exfalso; omega) | skip)
      | (refine s_X10_faces (by omega) (by omega) ?_)
      | (exact ih00 (t0 (by omega)))
      | (exact ih00 (by rw [t1 (by omega)]; omega))
      | (exact ih1 (by rw [t1 (by omega)]; omega))
      | refine And.intro ?_ ?_
      | omega)
theorem s_X12_facedBy {d : Nat} {dd : List (Nat × Nat)} {sh : Nat → Nat → Nat} {g : Nat → Nat → Int} {K : Int → (Nat → Nat → Int) → Prop} {v1 v2 : Int} (hA : AB (g 135)) (h1 : i32 v1) (h2 : 0 ≤ v2 ∧ v2 ≤ 39) (hK : K (fbN (g 135) v1 v2) g) : cI (d + 3) m_X12_facedBy [(vR 134), (vI v1), (vI v2)] dd sh g K := by
  have en := hA.n
  obtain ⟨n, hn⟩ := Int.eq_ofNat_of_zero_le en.1
  unfold fbN at hK
  rw [show (g 135 0).toNat = n by omega] at hK
  refine mkI (ls := [some (vR 134), some (vI v1), some (vI v2), none, none]) rfl rfl rfl rfl rfl (r_X12_facedBy_0 ?_)
  refine loop (P := fun k => rI (d + 2) m_X12_facedBy 5 [some (vR 134), some (vI v1), some (vI v2), some (vI (sm (fbF (g 135) v1 v2) k)), some (vI ((k : Int)))] [] dd sh g K) (n := n) ?_ ?_ 0 (by omega)
  · refine r_X12_facedBy_5 ?_
    repeat' (first
      | (refine imp_mk ?_; intro hh; first | contradiction | (exfalso; omega) | skip)
      | (exact hK)
      | refine And.intro ?_ ?_
      | omega)
  · intro k hk ih
    have ihx : rI (d + 2) m_X12_facedBy 5 [some (vR 134), some (vI v1), some (vI v2), some (vI (sm (fbF (g 135) v1 v2) (k + 1))), some (vI (((k + 1 : Nat) : Int)))] [] dd sh g K := ih
    rw [show sm (fbF (g 135) v1 v2) (k + 1) = sm (fbF (g 135) v1 v2) k + (fbF (g 135) v1 v2) k from rfl] at ihx
    have ih1 : (fbF (g 135) v1 v2) k = 1 → rI (d + 2) m_X12_facedBy 5 [some (vR 134), some (vI v1), some (vI v2), some (vI (sm (fbF (g 135) v1 v2) k + 1)), some (vI (((k + 1 : Nat) : Int)))] [] dd sh g K := fun h9 => by have h8 := ihx; rw [h9] at h8; exact h8
    have ih0 : (fbF (g 135) v1 v2) k = 0 → rI (d + 2) m_X12_facedBy 5 [some (vR 134), some (vI v1), some (vI v2), some (vI (sm (fbF (g 135) v1 v2) k + 0)), some (vI (((k + 1 : Nat) : Int)))] [] dd sh g K := fun h9 => by have h8 := ihx; rw [h9] at h8; exact h8
    have ih00 : (fbF (g 135) v1 v2) k = 0 → rI (d + 2) m_X12_facedBy 5 [some (vR 134), some (vI v1), some (vI v2), some (vI (sm (fbF (g 135) v1 v2) k)), some (vI (((k + 1 : Nat) : Int)))] [] dd sh g K := fun h9 => by have h8 := ihx; rw [h9, Int.add_zero] at h8; exact h8
    have hpp := hA.pp k (by omega) (by omega)
    have t0 : (k : Int) = v1 → fbF (g 135) v1 v2 k = 0 := fun h => if_pos h
    have t1 : ¬ (k : Int) = v1 → fbF (g 135) v1 v2 k = fc v2 (g 135 (18 + 7 * k)) := fun h => if_neg h
    have hf := fc01 v2 (g 135 (18 + 7 * k))
    refine r_X12_facedBy_5 ?_
    repeat' (first
      | (refine imp_mk ?_; intro hh; first | contradiction | (exfalso; omega) | skip)
      | (refine s_get2 (by omega) ?_)
      | (refine s_X12_areFacing (by omega) (by omega) ?_)
      | (exact ih0 (t0 (by omega)))
      | (exact ih0 (by rw [t1 (by omega)]; omega))
      | (exact ih1 (by rw [t1 (by omega)]; omega))
      | refine And.intro ?_ ?_
      | omega)
def loF (a : Nat → Int) (p : Nat) : Int := if fbN a p (a (18 + 7 * p)) = 0 then (1 : Int) * 2 ^ p else 0
theorem loF_b {a : Nat → Int} {p : Nat} (h : p < 6) : 0 ≤ loF a p ∧ loF a p < 2 ^ 6 := by
  unfold loF
  split
  · rw [Int.one_mul]
    have h1 := pow2_pos p
    have h2 := pow2_le (q := p) (p := 5) (by omega)
    omega
  · exact ⟨Int.le_refl _, by decide⟩
set_option maxRecDepth 8000 in
theorem s_X10_lonelyOnes {d : Nat} {dd : List (Nat × Nat)} {sh : Nat → Nat → Nat} {g : Nat → Nat → Int} {K : Int → (Nat → Nat → Int) → Prop} {a : Nat → Int} {n : Nat} (hS : RSc g a) (hn : a 0 = n) (hK : K (fo (loF a) n) g) : cI (d + 4) m_X10_lonelyOnes [(vR 128)] dd sh g K := by
  have en := hS.n
  refine mkI (ls := [some (vR 128), none, none]) rfl rfl rfl rfl rfl (r_X10_lonelyOnes_0 ?_)
  refine loop (P := fun k => rI (d + 3) m_X10_lonelyOnes 4 [some (vR 128), some (vI (fo (loF a) k)), some (vI ((k : Int)))] [] dd sh g K) (n := n) ?_ ?_ 0 (by omega)
  · refine r_X10_lonelyOnes_4 ?_
    repeat' (first
      | (refine imp_mk ?_; intro hh; first | contradiction | (exfalso; omega) | skip)
      | (exact hK)
      | refine And.intro ?_ ?_
      | omega)
  · intro k hk ih
    have hpp := hS.pp k (by omega) (by omega)
    have hpb := hS.pb k (by omega)
    have hfb := fbN_b en.2 k (a (18 + 7 * k))
    have hab := hS.ab.pp k (by omega) (by omega)
    have ihx : rI (d + 3) m_X10_lonelyOnes 4 [some (vR 128), some (vI (ior (fo (loF a) k) (loF a k))), some (vI (((k + 1 : Nat) : Int)))] [] dd sh g K := ih
    have hb := fo_bound (f := loF a) (n := k) (q := 6) (by decide) fun j hj => loF_b (by omega)
    refine r_X10_lonelyOnes_4 ?_
    rw [show ((k : Int)).toNat = k from rfl, hpp.2.2.1]
    by_cases hz : fbN a k (a (18 + 7 * k)) = 0
    · rw [show loF a k = (1 : Int) * 2 ^ k from if_pos hz] at ihx
      repeat' (first
        | (refine imp_mk ?_; intro hh; first | contradiction | (exfalso; omega) | skip)
        | (refine s_X10_facedFrom hS (by omega) (by omega) ?_)
        | (exact ihx)
        | refine And.intro ?_ ?_
        | omega)
    · rw [show loF a k = 0 from if_neg hz, ior_zero hb.1 (by omega)] at ihx
      repeat' (first
        | (refine imp_mk ?_; intro hh; first | contradiction | (exfalso; omega) | skip)
        | (refine s_X10_facedFrom hS (by omega) (by omega) ?_)
        | (exact ihx)
        | refine And.intro ?_ ?_
        | omega)
theorem s_X12_lonely {d : Nat} {dd : List (Nat × Nat)} {sh : Nat → Nat → Nat} {g : Nat → Nat → Int} {K : Int → (Nat → Nat → Int) → Prop} {n : Nat} (hA : AB (g 135)) (hn : g 135 0 = n) (hK : K (fo (loF (g 135)) n) g) : cI (d + 4) m_X12_lonely [(vR 134)] dd sh g K := by
  have en := hA.n
  refine mkI (ls := [some (vR 134), none, none]) rfl rfl rfl rfl rfl (r_X12_lonely_0 ?_)
  refine loop (P := fun k => rI (d + 3) m_X12_lonely 4 [some (vR 134), some (vI (fo (loF (g 135)) k)), some (vI ((k : Int)))] [] dd sh g K) (n := n) ?_ ?_ 0 (by omega)
  · refine r_X12_lonely_4 ?_
    repeat' (first
      | (refine imp_mk ?_; intro hh; first | contradiction | (exfalso; omega) | skip)
      | (exact hK)
      | refine And.intro ?_ ?_
      | omega)
  · intro k hk ih
    have hpp := hA.pp k (by omega) (by omega)
    have hfb := fbN_b en k (g 135 (18 + 7 * k))
    have ihx : rI (d + 3) m_X12_lonely 4 [some (vR 134), some (vI (ior (fo (loF (g 135)) k) (loF (g 135) k))), some (vI (((k + 1 : Nat) : Int)))] [] dd sh g K := ih
    refine r_X12_lonely_4 ?_
    rw [show ((k : Int)).toNat = k from rfl]
    by_cases hz : fbN (g 135) k (g 135 (18 + 7 * k)) = 0
    · rw [show loF (g 135) k = (1 : Int) * 2 ^ k from if_pos hz] at ihx
      repeat' (first
        | (refine imp_mk ?_; intro hh; first | contradiction | (exfalso; omega) | skip)
        | (refine s_get2 (by omega) ?_)
        | (refine s_X12_facedBy hA (by omega) (by omega) ?_)
        | (exact ihx)
        | refine And.intro ?_ ?_
        | omega)
    · rw [show loF (g 135) k = 0 from if_neg hz] at ihx
      repeat' (first
        | (refine imp_mk ?_; intro hh; first | contradiction | (exfalso; omega) | skip)
        | (refine s_get2 (by omega) ?_)
        | (refine s_X12_facedBy hA (by omega) (by omega) ?_)
        | (exact ihx)
        | refine And.intro ?_ ?_
        | omega)
theorem sim_lonely : S_lonely := by
  intro dd sh g hI
  have hA := hI.s.ab
  have en := hA.n
  obtain ⟨n, hn⟩ := Int.eq_ofNat_of_zero_le en.1
  unfold SimI
  refine mkI (ls := [some (vR 1)]) rfl rfl rfl rfl rfl (r_X11_lonely_0 ?_)
  refine s_X10_lonelyOnes hI.s hn ?_
  refine s_X12_lonely hA hn ?_
  have hb := fo_bound (f := loF (g 135)) (n := n) (q := 6) (by decide) fun j hj => loF_b (by omega)
  exact ⟨rfl, ⟨by omega, by omega⟩, hI⟩
