-- a law's run, of both
noncomputable def evX (o v : Nat → Int) (pays : Bool) (lo hi : Nat) (nm : Nat → Int) : Int := @dite Int (EvSeg o v pays false lo hi 30) (Classical.propDecidable _) (fun h => Classical.choose h nm 0) (fun _ => 0)
theorem evX_spec {o v : Nat → Int} {pays : Bool} {lo hi : Nat} (h : EvSeg o v pays false lo hi 30) : ∃ X, EvP o v pays false lo hi 30 X ∧ ∀ nm, evX o v pays lo hi nm = X nm 0 := by
  refine ⟨Classical.choose h, Classical.choose_spec h, fun nm => ?_⟩
  unfold evX
  rw [dif_pos h]
theorem hld_b {x : Int} : -1000000 ≤ hld x ∧ hld x ≤ 1000000 := by unfold hld; split <;> (try split) <;> omega
theorem twoV_b {o x y : Int} (hx : -1000000 ≤ x ∧ x ≤ 1000000) : -1000000 ≤ twoV o x y ∧ twoV o x y ≤ 1000000 := by
  unfold twoV
  split
  · exact hld_b
  · split
    · exact hld_b
    · split
      · exact hld_b
      · split
        · exact ⟨by decide, by decide⟩
        · have h1 := Int.natAbs_tdiv_le_natAbs x y
          omega
theorem twoV4 (x y : Int) : twoV 4 x y = hld (x + y) := by unfold twoV; rw [if_pos rfl]
theorem twoV5 (x y : Int) : twoV 5 x y = hld (x - y) := by unfold twoV; rw [if_neg (by decide), if_pos rfl]
theorem twoV6 (x y : Int) : twoV 6 x y = hld (x * y) := by unfold twoV; rw [if_neg (by decide), if_neg (by decide), if_pos rfl]
theorem mul_b {x y : Int} (hx : -1000000 ≤ x ∧ x ≤ 1000000) (hy : -1000000 ≤ y ∧ y ≤ 1000000) : -1000000000000 ≤ x * y ∧ x * y ≤ 1000000000000 := by
  have h1 : (x * y).natAbs = x.natAbs * y.natAbs := Int.natAbs_mul x y
  have h2 : x.natAbs * y.natAbs ≤ 1000000 * 1000000 := Nat.mul_le_mul (by omega) (by omega)
  omega
theorem s_X2_counted {d : Nat} {dd : List (Nat × Nat)} {sh : Nat → Nat → Nat} {g : Nat → Nat → Int} {K : Int → (Nat → Nat → Int) → Prop} {v0 x y o : Int} (h0 : v0 = 2 ∧ o = 4 ∨ v0 = 3 ∧ o = 5 ∨ v0 = 4 ∧ o = 6 ∨ v0 = 5 ∧ o = 7) (hx : -1000000 ≤ x ∧ x ≤ 1000000) (hy : -1000000 ≤ y ∧ y ≤ 1000000) (hK : K (twoV o x y) g) : cI (d + 1) m_X2_counted [vI v0, vL x, vL y] dd sh g K := by
  have fin : ∀ z : Int, i64 z → hld z = twoV o x y → (i32 (lcmpv z 1000000)) ∧ ((lcmpv z 1000000 ≤ 0 → rI d m_X2_counted 66 [none, none, none, none, none, some (vL z), none] [] dd sh g K) ∧ (0 < lcmpv z 1000000 → K 1000000 g)) := by
    intro z hz hh
    rw [← hh] at hK
    refine ⟨lcmp32, fun h => r_X2_counted_66 ⟨hz, lcmp32, fun h2 => ?_, fun h2 => ?_⟩, fun h => ?_⟩
    · rw [lcmp_le] at h
      rw [lcmp_ge] at h2
      rw [show hld z = z by unfold hld; rw [if_neg (by omega), if_neg (by omega)]] at hK
      exact hK
    · rw [lcmp_le] at h
      rw [lcmp_lt] at h2
      rw [show hld z = -1000000 by unfold hld; rw [if_neg (by omega), if_pos (by omega)]] at hK
      exact hK
    · rw [lcmp_gt] at h
      rw [show hld z = 1000000 by unfold hld; rw [if_pos (by omega)]] at hK
      exact hK
  have hm := mul_b hx hy
  refine mkI (ls := [some (vI v0), some (vL x), none, some (vL y), none, none, none]) rfl rfl rfl rfl rfl (r_X2_counted_0 ?_)
  rcases h0 with ⟨rfl, rfl⟩ | ⟨rfl, rfl⟩ | ⟨rfl, rfl⟩ | ⟨rfl, rfl⟩
  · exact ⟨⟨by decide, by decide⟩, fun h => absurd rfl h, fun _ => ⟨⟨by omega, by omega⟩, fin _ ⟨by omega, by omega⟩ (twoV4 x y).symm⟩⟩
  · exact ⟨⟨by decide, by decide⟩, fun _ => ⟨fun h => absurd rfl h, fun _ => ⟨⟨by omega, by omega⟩, fin _ ⟨by omega, by omega⟩ (twoV5 x y).symm⟩⟩, fun h => absurd h (by decide)⟩
  · exact ⟨⟨by decide, by decide⟩, fun _ => ⟨fun _ => ⟨fun h => absurd rfl h, fun _ => ⟨⟨by omega, by omega⟩, fin _ ⟨by omega, by omega⟩ (twoV6 x y).symm⟩⟩, fun h => absurd h (by decide)⟩, fun h => absurd h (by decide)⟩
  · refine ⟨⟨by decide, by decide⟩, fun _ => ⟨fun _ => ⟨fun _ => ⟨⟨by omega, by omega⟩, lcmp32, fun h => ?_, fun h => ?_⟩, fun h => absurd h (by decide)⟩, fun h => absurd h (by decide)⟩, fun h => absurd h (by decide)⟩
    · rw [lcmp_eq] at h
      have h1 := Int.natAbs_tdiv_le_natAbs x y
      refine ⟨⟨by omega, by omega⟩, h, ⟨by omega, by omega⟩, fin _ ⟨by omega, by omega⟩ ?_⟩
      unfold twoV
      rw [if_neg (by decide), if_neg (by decide), if_neg (by decide), if_neg h]
      unfold hld
      rw [if_neg (by omega), if_neg (by omega)]
    · rw [lcmp_eq] at h
      refine fin 0 ⟨by decide, by decide⟩ ?_
      unfold twoV
      rw [if_neg (by decide), if_neg (by decide), if_neg (by decide), if_pos h]
      unfold hld
      rw [if_neg (by decide), if_neg (by decide)]
theorem s_X12_held {d : Nat} {dd : List (Nat × Nat)} {sh : Nat → Nat → Nat} {g : Nat → Nat → Int} {K : Int → (Nat → Nat → Int) → Prop} {x : Int} (hx : i64 x) (hK : K (hld x) g) : cL (d + 1) m_X12_held [vL x] dd sh g K := by
  refine mkL (ls := [some (vL x), none]) rfl rfl rfl rfl rfl (r_X12_held_0 ?_)
  refine ⟨hx, lcmp32, fun h => ⟨lcmp32, fun h2 => ?_, fun h2 => ?_⟩, fun h => ?_⟩
  · rw [lcmp_le] at h
    rw [lcmp_ge] at h2
    rw [show hld x = x by unfold hld; rw [if_neg (by omega), if_neg (by omega)]] at hK
    exact hK
  · rw [lcmp_le] at h
    rw [lcmp_lt] at h2
    rw [show hld x = -1000000 by unfold hld; rw [if_neg (by omega), if_pos (by omega)]] at hK
    exact hK
  · rw [lcmp_gt] at h
    rw [show hld x = 1000000 by unfold hld; rw [if_pos (by omega)]] at hK
    exact hK
theorem s_X12_two {d : Nat} {dd : List (Nat × Nat)} {sh : Nat → Nat → Nat} {g : Nat → Nat → Int} {K : Int → (Nat → Nat → Int) → Prop} {x y o : Int} (h0 : 4 ≤ o ∧ o ≤ 7) (hx : -1000000 ≤ x ∧ x ≤ 1000000) (hy : -1000000 ≤ y ∧ y ≤ 1000000) (hK : K (twoV o x y) g) : cL (d + 2) m_X12_two [vI o, vL x, vL y] dd sh g K := by
  have hm := mul_b hx hy
  have hc : o = 4 ∨ o = 5 ∨ o = 6 ∨ o = 7 := by omega
  refine mkL (ls := [some (vI o), some (vL x), none, some (vL y), none]) rfl rfl rfl rfl rfl (r_X12_two_0 ?_)
  rcases hc with rfl | rfl | rfl | rfl
  · exact ⟨⟨by decide, by decide⟩, fun h => absurd h (by decide), fun _ => s_X12_held ⟨by omega, by omega⟩ (by rw [← twoV4]; exact hK), fun h => absurd h (by decide), fun h => absurd h (by decide)⟩
  · exact ⟨⟨by decide, by decide⟩, fun h => absurd h (by decide), fun h => absurd h (by decide), fun _ => s_X12_held ⟨by omega, by omega⟩ (by rw [← twoV5]; exact hK), fun h => absurd h (by decide)⟩
  · exact ⟨⟨by decide, by decide⟩, fun h => absurd h (by decide), fun h => absurd h (by decide), fun h => absurd h (by decide), fun _ => s_X12_held ⟨by omega, by omega⟩ (by rw [← twoV6]; exact hK)⟩
  · refine ⟨⟨by decide, by decide⟩, fun _ => ⟨⟨by omega, by omega⟩, lcmp32, fun h => ?_, fun h => ?_⟩, fun h => absurd h (by decide), fun h => absurd h (by decide), fun h => absurd h (by decide)⟩
    · rw [lcmp_eq] at h
      refine ⟨⟨by omega, by omega⟩, h, ?_⟩
      unfold twoV at hK
      rw [if_neg (by decide), if_neg (by decide), if_neg (by decide), if_neg h] at hK
      exact hK
    · rw [lcmp_eq] at h
      unfold twoV at hK
      rw [if_neg (by decide), if_neg (by decide), if_neg (by decide), if_pos h] at hK
      exact hK
/-- the class's rows are those of the run -/
def RelC (gb g' : Nat → Nat → Int) (nm : Nat → Int) (s : SS) : Prop := (∀ q, q ≠ 116 → q ≠ 117 → g' q = gb q) ∧ (∀ j, j < 8 → g' 116 j = nm j) ∧ g' 116 8 = s.2.2.2.2.2.2 ∧ ∀ j, j < s.2.1 → g' 117 j = s.2.2.2.1 j
def R42 (d P hi : Nat) (dd : List (Nat × Nat)) (sh : Nat → Nat → Nat) (K : Int → (Nat → Nat → Int) → Prop) (s : SS) (c : Nat) (g' : Nat → Nat → Int) : Prop :=
  rI d m_X2_run 42 [some (vR 115), none, none, some (vR P), some (vI (s.1 : Int)), some (vI (hi : Int)), some (vI (s.2.2.1 : Int)), some (vI s.2.2.2.2.1), some (vI s.2.2.2.2.2.1), some (vI (s.2.1 : Int)), some (vI (c : Int)), none, none] [] dd sh g' K
theorem run_step {d P lo hi len c : Nat} {pays : Bool} {dd : List (Nat × Nat)} {sh : Nat → Nat → Nat} {gb : Nat → Nat → Int} {K : Int → (Nat → Nat → Int) → Prop} {o v nm : Nat → Int} {s : SS} (hP : 149 ≤ P) (hT : (T0 ++ dyn dd)[P]? = some (0, len)) (hlen : hi ≤ len) (hlen2 : len ≤ 300)
    (hcode : ∀ i, lo ≤ i → i < hi → gb P i = deedOf (o i) * 10000 + v i ∧ (2 < o i → v i = 0)) (hnm : ∀ j, j < 8 → (pays = true → j < 5) → 0 ≤ nm j ∧ nm j ≤ 9999) (hok : ok1 o v pays lo hi s) (hc : c < 9000)
    (hn : ∀ g', RelC gb g' nm (st1 o v nm s) → R42 (d + 1) P hi dd sh K (st1 o v nm s) (c + 1) g') : ∀ g', RelC gb g' nm s → R42 (d + 1) P hi dd sh K s c g' := by
  intro g' hr
  obtain ⟨i, n, ag, vals, times, tot, i8⟩ := s
  obtain ⟨⟨l1, l2⟩, n36, hag, ⟨hv, ht, hto⟩, ho, h0, h1, h2, h3, h4, h5⟩ := hok
  obtain ⟨r1, r2, r3, r4⟩ := hr
  have r3' : g' 116 8 = i8 := r3
  have r4' : ∀ j, j < n → g' 117 j = vals j := r4
  obtain ⟨hc1, hc2⟩ := hcode i l1 l2
  have eP : g' P i = deedOf (o i) * 10000 + v i := by rw [r1 P (by omega) (by omega)]; exact hc1
  have hn' : ∀ (s' : SS) (g'' : Nat → Nat → Int), st1 o v nm (i, n, ag, vals, times, tot, i8) = s' → RelC gb g'' nm s' → R42 (d + 1) P hi dd sh K s' (c + 1) g'' := fun s' g'' e h => by rw [← e] at h ⊢; exact hn g'' h
  have hcase : o i = 0 ∨ o i = 1 ∨ o i = 2 ∨ o i = 3 ∨ o i = 8 ∨ (4 ≤ o i ∧ o i ≤ 7) := by omega
  have key : ∀ D : Int, deedOf (o i) = D → 0 ≤ D → D ≤ 8 → 0 ≤ v i → v i ≤ 9999 → (g' P i).tdiv 10000 = D ∧ (g' P i).tmod 10000 = v i ∧ i32 (g' P i) := by
    intro D hD hD0 hD8 hv0 hv9
    rw [eP, hD]
    refine ⟨?_, ?_, by omega, by omega⟩
    · rw [Int.tdiv_eq_ediv_of_nonneg (by omega)]; omega
    · rw [Int.tmod_eq_emod_of_nonneg (by omega)]; omega
  show rI (d + 1) m_X2_run 42 [some (vR 115), none, none, some (vR P), some (vI (i : Int)), some (vI (hi : Int)), some (vI (ag : Int)), some (vI times), some (vI tot), some (vI (n : Int)), some (vI (c : Int)), none, none] [] dd sh g' K
  refine r_X2_run_42 ⟨⟨by omega, by omega⟩, fun h => absurd h (by omega), fun _ => ⟨⟨by omega, by omega⟩, fun h => absurd h (by omega), fun _ => ⟨⟨by omega, by omega⟩, fun h => absurd h (by omega), fun _ => ⟨⟨by omega, by omega⟩, fun h => absurd h (by omega), fun _ => ⟨arT (by omega) hT, by omega, by rw [lenT hT]; omega, ?_⟩⟩⟩⟩⟩
  rw [show ((i : Int)).toNat = i from rfl, show ((n : Int)).toNat = n from rfl]
  rcases hcase with e | e | e | e | e | e
  · obtain ⟨k1, k2, k3⟩ := key 0 (by rw [e]; rfl) (by decide) (by decide) (h0 e).1 (h0 e).2
    rw [k1, k2]
    refine ⟨k3, ⟨by decide, by decide⟩, fun h => absurd rfl h, fun _ => ⟨by omega, by omega, r_X2_run_330 ?_⟩⟩
    refine hn' (i + 1, n + 1, ag, upv vals n (v i), times, tot, i8) _ (by unfold st1; simp [e]) ⟨fun q h6 h7 => by rw [up_off h7, r1 q h6 h7], fun j hj => r2 j hj, r3', fun j hj => ?_⟩
    show up g' 117 n (v i) 117 j = upv vals n (v i) j
    rw [up_at]
    unfold upv
    by_cases hjn : j = n
    · rw [if_pos hjn, if_pos hjn]
    · have hj' : j < n + 1 := hj
      rw [if_neg hjn, if_neg hjn]; exact r4' j (by omega)
  · obtain ⟨k1, k2, k3⟩ := key 1 (by rw [e]; rfl) (by decide) (by decide) (h1 e).1.1 (by have := (h1 e).1.2; omega)
    have hv8 := h1 e
    rw [k1, k2]
    refine ⟨k3, ⟨by decide, by decide⟩, fun _ => ⟨fun h => absurd rfl h, fun _ => ⟨⟨by omega, by omega⟩, fun h => absurd h (by omega), fun _ => ⟨by omega, by omega, by omega, by omega, r_X2_run_330 ?_⟩⟩⟩, fun h => absurd h (by decide)⟩
    have ex : g' 116 (v i).toNat = if v i = 8 then i8 else nm (v i).toNat := by
      by_cases hv8' : v i = 8
      · rw [if_pos hv8', hv8']; exact r3'
      · rw [if_neg hv8']; exact r2 _ (by omega)
    rw [ex]
    refine hn' (i + 1, n + 1, ag, upv vals n (if v i = 8 then i8 else nm (v i).toNat), times, tot, i8) _ (by unfold st1; simp [e]) ⟨fun q h6 h7 => by rw [up_off h7, r1 q h6 h7], fun j hj => r2 j hj, r3', fun j hj => ?_⟩
    show up g' 117 n _ 117 j = upv vals n _ j
    rw [up_at]
    unfold upv
    by_cases hjn : j = n
    · rw [if_pos hjn, if_pos hjn]
    · have hj' : j < n + 1 := hj
      rw [if_neg hjn, if_neg hjn]; exact r4' j (by omega)
  · obtain ⟨k1, k2, k3⟩ := key 7 (by rw [e]; rfl) (by decide) (by decide) (by have := h2 e; omega) (by have := h2 e; omega)
    rw [k1, k2]
    refine ⟨k3, ⟨by decide, by decide⟩, fun _ => ⟨fun _ => ⟨fun h => absurd rfl h, fun _ => r_X2_run_330 ?_⟩, fun h => absurd h (by decide)⟩, fun h => absurd h (by decide)⟩
    refine hn' (i + 1, n, i + 1, vals, v i, 0, 0) _ (by unfold st1; simp [e]) ⟨fun q h6 h7 => by rw [up_off h6, r1 q h6 h7], fun j hj => ?_, ?_, fun j hj => ?_⟩
    · rw [up_at, if_neg (by omega)]; exact r2 j hj
    · rw [up_at, if_pos rfl]
    · exact r4' j hj
  · have hv0 := hc2 (by omega)
    obtain ⟨k1, k2, k3⟩ := key 6 (by rw [e]; rfl) (by decide) (by decide) (by omega) (by omega)
    have hn1 := h3 (Or.inl e)
    have hx := hv (n - 1) (by omega)
    rw [k1, k2]
    refine ⟨k3, ⟨by decide, by decide⟩, fun _ => ⟨fun _ => ⟨fun _ => ⟨fun _ => ?_, fun h => absurd h (by decide)⟩, fun h => absurd h (by decide)⟩, fun h => absurd h (by decide)⟩, fun h => absurd h (by decide)⟩
    refine r_X2_run_254 ⟨⟨by decide, by decide⟩, fun h => absurd rfl h, fun _ => ⟨⟨by omega, by omega⟩, fun h => absurd h (by omega), fun _ => ⟨by omega, by omega, r_X2_run_330 ?_⟩⟩⟩
    rw [show ((n : Int) - 1).toNat = n - 1 by omega, r4' (n - 1) (by omega)]
    refine hn' (i + 1, n, ag, upv vals (n - 1) (-(vals (n - 1))), times, tot, i8) _ (by unfold st1; simp [e]) ⟨fun q h6 h7 => by rw [up_off h7, r1 q h6 h7], fun j hj => r2 j hj, r3', fun j hj => ?_⟩
    show up g' 117 (n - 1) _ 117 j = upv vals (n - 1) _ j
    rw [up_at]
    unfold upv
    by_cases hjn : j = n - 1
    · rw [if_pos hjn, if_pos hjn]
    · rw [if_neg hjn, if_neg hjn]; exact r4' j hj
  · have hv0 := hc2 (by omega)
    obtain ⟨k1, k2, k3⟩ := key 8 (by rw [e]; rfl) (by decide) (by decide) (by omega) (by omega)
    have hn1 := h3 (Or.inr e)
    have hx := hv (n - 1) (by omega)
    have h58 := h5 e
    rw [k1, k2]
    refine ⟨k3, ⟨by decide, by decide⟩, fun _ => ⟨fun _ => ⟨fun _ => ⟨fun h => absurd rfl h, fun _ => ⟨fun h => absurd h (by omega), fun _ => ?_⟩⟩, fun h => absurd h (by decide)⟩, fun h => absurd h (by decide)⟩, fun h => absurd h (by decide)⟩
    rw [show ((n : Int) - 1).toNat = n - 1 by omega, r4' (n - 1) (by omega)]
    refine ⟨⟨by omega, by omega⟩, by omega, by omega, ⟨by omega, by omega⟩, ?_⟩
    refine s_X2_counted (o := 4) (Or.inl ⟨rfl, rfl⟩) hto hx ?_
    rw [r3']
    have e4 : twoV 4 tot (vals (n - 1)) = hld (tot + vals (n - 1)) := twoV4 _ _
    rw [e4]
    refine ⟨⟨by omega, by omega⟩, ⟨by omega, by omega⟩, fun h => r_X2_run_330 ?_, fun h => r_X2_run_330 ?_⟩
    · refine hn' (i + 1, n, ag, upv vals (n - 1) (hld (tot + vals (n - 1))), times, hld (tot + vals (n - 1)), i8 + 1) _ (by unfold st1; simp [e]; intro h9; exact absurd h9 (by omega)) ⟨fun q h6 h7 => by rw [up_off h6, up_off h7, r1 q h6 h7], fun j hj => ?_, ?_, fun j hj => ?_⟩
      · rw [up_at, if_neg (by omega), up_off (by decide)]; exact r2 j hj
      · rw [up_at, if_pos rfl]
      · rw [up_off (q := 117) (by decide)]
        show up g' 117 (n - 1) _ 117 j = upv vals (n - 1) _ j
        rw [up_at]
        unfold upv
        by_cases hjn : j = n - 1
        · rw [if_pos hjn, if_pos hjn]
        · rw [if_neg hjn, if_neg hjn]; exact r4' j hj
    · rw [show ((n : Int) + (-1)) = ((n - 1 : Nat) : Int) by omega]
      refine hn' (ag, n - 1, ag, upv vals (n - 1) (hld (tot + vals (n - 1))), times, hld (tot + vals (n - 1)), i8 + 1) _ (by unfold st1; simp [e]; intro h9; exact absurd h9 (by omega)) ⟨fun q h6 h7 => by rw [up_off h6, up_off h7, r1 q h6 h7], fun j hj => ?_, ?_, fun j hj => ?_⟩
      · rw [up_at, if_neg (by omega), up_off (by decide)]; exact r2 j hj
      · rw [up_at, if_pos rfl]
      · have hj' : j < n - 1 := hj
        rw [up_off (q := 117) (by decide)]
        show up g' 117 (n - 1) _ 117 j = upv vals (n - 1) _ j
        rw [up_at]
        unfold upv
        rw [if_neg (by omega), if_neg (by omega)]; exact r4' j (by omega)
  · have hv0 := hc2 (by omega)
    have hn2 := h4 e.1 e.2
    have hx := hv (n - 2) (by omega)
    have hy := hv (n - 1) (by omega)
    obtain ⟨D, hD, hDc⟩ : ∃ D, deedOf (o i) = D ∧ (D = 2 ∧ o i = 4 ∨ D = 3 ∧ o i = 5 ∨ D = 4 ∧ o i = 6 ∨ D = 5 ∧ o i = 7) := by
      have : o i = 4 ∨ o i = 5 ∨ o i = 6 ∨ o i = 7 := by omega
      rcases this with e' | e' | e' | e'
      · exact ⟨2, by rw [e']; rfl, Or.inl ⟨rfl, e'⟩⟩
      · exact ⟨3, by rw [e']; rfl, Or.inr (Or.inl ⟨rfl, e'⟩)⟩
      · exact ⟨4, by rw [e']; rfl, Or.inr (Or.inr (Or.inl ⟨rfl, e'⟩))⟩
      · exact ⟨5, by rw [e']; rfl, Or.inr (Or.inr (Or.inr ⟨rfl, e'⟩))⟩
    obtain ⟨k1, k2, k3⟩ := key D hD (by omega) (by omega) (by omega) (by omega)
    rw [k1, k2]
    refine ⟨k3, ⟨by omega, by omega⟩, fun _ => ⟨fun _ => ⟨fun _ => ⟨fun _ => ?_, fun h => absurd h (by omega)⟩, fun h => absurd h (by omega)⟩, fun h => absurd h (by omega)⟩, fun h => absurd h (by omega)⟩
    refine r_X2_run_254 ⟨⟨by omega, by omega⟩, fun _ => ?_, fun h => absurd h (by omega)⟩
    refine r_X2_run_289 ⟨⟨by omega, by omega⟩, fun h => absurd h (by omega), fun _ => ?_⟩
    rw [show (((n : Int) + (-1)) - 1).toNat = n - 2 by omega, show ((n : Int) + (-1)).toNat = n - 1 by omega, r4' (n - 2) (by omega), r4' (n - 1) (by omega)]
    refine ⟨by omega, by omega, ⟨by omega, by omega⟩, by omega, by omega, ⟨by omega, by omega⟩, ?_⟩
    refine s_X2_counted (o := o i) hDc hx hy (r_X2_run_330 ?_)
    rw [show ((n : Int) + (-1)) = ((n - 1 : Nat) : Int) by omega]
    refine hn' (i + 1, n - 1, ag, upv vals (n - 2) (twoV (o i) (vals (n - 2)) (vals (n - 1))), times, tot, i8) _ (by unfold st1; simp [show ¬ o i = 0 by omega, show ¬ o i = 1 by omega, show ¬ o i = 2 by omega, show ¬ o i = 3 by omega, show ¬ o i = 8 by omega]) ⟨fun q h6 h7 => by rw [up_off h7, r1 q h6 h7], fun j hj => r2 j hj, r3', fun j hj => ?_⟩
    have hj' : j < n - 1 := hj
    show up g' 117 (n - 2) _ 117 j = upv vals (n - 2) _ j
    rw [up_at]
    unfold upv
    by_cases hjn : j = n - 2
    · rw [if_pos hjn, if_pos hjn]
    · rw [if_neg hjn, if_neg hjn]; exact r4' j (by omega)
theorem run_sim {d P lo hi len : Nat} {pays : Bool} {dd : List (Nat × Nat)} {sh : Nat → Nat → Nat} {gb : Nat → Nat → Int} {K : Int → (Nat → Nat → Int) → Prop} {o v nm : Nat → Int} (hP : 149 ≤ P) (hT : (T0 ++ dyn dd)[P]? = some (0, len)) (hlen : hi ≤ len) (hlen2 : len ≤ 300)
    (hcode : ∀ i, lo ≤ i → i < hi → gb P i = deedOf (o i) * 10000 + v i ∧ (2 < o i → v i = 0)) (hnm : ∀ j, j < 8 → (pays = true → j < 5) → 0 ≤ nm j ∧ nm j ≤ 9999) :
    ∀ (k : Nat) (s t : SS) (c : Nat), Run o v nm pays lo hi k s t → c + k ≤ 9000 → (∀ c' g', c' ≤ 9000 → RelC gb g' nm t → R42 (d + 1) P hi dd sh K t c' g') → ∀ g', RelC gb g' nm s → R42 (d + 1) P hi dd sh K s c g' := by
  intro k
  induction k with
  | zero => intro s t c hr hc hf g' hg; have e : s = t := hr; rw [e] at hg ⊢; exact hf c g' (by omega) hg
  | succ k ih =>
    intro s t c hr hc hf g' hg
    exact run_step hP hT hlen hlen2 hcode hnm hr.1 (by omega) (fun g'' hg'' => ih _ t (c + 1) hr.2 (by omega) hf g'' hg'') g' hg
-- the reference's
def RelR (gb g' : Nat → Nat → Int) (nm : Nat → Int) (s : SS) : Prop := (∀ q, q ≠ 140 → q ≠ 141 → g' q = gb q) ∧ (∀ j, j < 8 → g' 140 j = nm j) ∧ g' 140 8 = s.2.2.2.2.2.2 ∧ ∀ j, j < s.2.1 → g' 141 j = s.2.2.2.1 j
def R44 (d x cd : Nat) (dd : List (Nat × Nat)) (sh : Nat → Nat → Nat) (K : Int → (Nat → Nat → Int) → Prop) (s : SS) (g' : Nat → Nat → Int) : Prop :=
  rL d m_X12_worked 44 [some (vR 134), none, none, some (vI (x : Int)), some (vI (cd : Int)), some (vI (s.2.1 : Int)), some (vI ((s.2.2.1 : Int) - 1)), some (vI s.2.2.2.2.1), some (vL s.2.2.2.2.2.1), none, some (vI (s.1 : Int)), none, none] [] dd sh g' K
theorem wrk_step {d x cd lo hi : Nat} {pays : Bool} {dd : List (Nat × Nat)} {sh : Nat → Nat → Nat} {gb : Nat → Nat → Int} {K : Int → (Nat → Nat → Int) → Prop} {o v nm : Nat → Int} {s : SS} (hx : x + 2 < 2724) (hcd : cd + 2 * hi ≤ 2724) (hhi : gb 137 (x + 2) = hi) (hhi2 : hi ≤ 1000)
    (hcode : ∀ i, lo ≤ i → i < hi → gb 137 (cd + 2 * i) = o i ∧ gb 137 (cd + 2 * i + 1) = v i) (hnm : ∀ j, j < 8 → (pays = true → j < 5) → 0 ≤ nm j ∧ nm j ≤ 9999) (hok : ok1 o v pays lo hi s)
    (hn : ∀ g', RelR gb g' nm (st1 o v nm s) → R44 (d + 2) x cd dd sh K (st1 o v nm s) g') : ∀ g', RelR gb g' nm s → R44 (d + 2) x cd dd sh K s g' := by
  intro g' hr
  obtain ⟨i, n, ag, vals, times, tot, i8⟩ := s
  obtain ⟨⟨l1, l2⟩, n36, hag, ⟨hv, ht, hto⟩, ho, h0, h1, h2, h3, h4, h5⟩ := hok
  obtain ⟨r1, r2, r3, r4⟩ := hr
  have r3' : g' 140 8 = i8 := r3
  have r4' : ∀ j, j < n → g' 141 j = vals j := r4
  obtain ⟨hc1, hc2⟩ := hcode i l1 l2
  have e137 : g' 137 = gb 137 := r1 137 (by decide) (by decide)
  have hn' : ∀ (s' : SS) (g'' : Nat → Nat → Int), st1 o v nm (i, n, ag, vals, times, tot, i8) = s' → RelR gb g'' nm s' → R44 (d + 2) x cd dd sh K s' g'' := fun s' g'' e h => by rw [← e] at h ⊢; exact hn g'' h
  have hcase : o i = 0 ∨ o i = 1 ∨ o i = 2 ∨ o i = 3 ∨ o i = 8 ∨ (4 ≤ o i ∧ o i ≤ 7) := by omega
  show rL (d + 2) m_X12_worked 44 [some (vR 134), none, none, some (vI (x : Int)), some (vI (cd : Int)), some (vI (n : Int)), some (vI ((ag : Int) - 1)), some (vI times), some (vL tot), none, some (vI (i : Int)), none, none] [] dd sh g' K
  refine r_X12_worked_44 ?_
  rw [e137, show ((x : Int) + 2).toNat = x + 2 by omega, show ((cd : Int) + 2 * (i : Int)).toNat = cd + 2 * i by omega, show ((cd : Int) + 2 * (i : Int) + 1).toNat = cd + 2 * i + 1 by omega, hhi, hc1, hc2, show ((n : Int)).toNat = n from rfl]
  refine ⟨by omega, by omega, ⟨by omega, by omega⟩, ⟨by omega, by omega⟩, fun h => absurd h (by omega), fun _ => ⟨by omega, by omega, by omega, by omega, ⟨by omega, by omega⟩, ?_⟩⟩
  rcases hcase with e | e | e | e | e | e
  · have hv9 := h0 e
    refine ⟨fun h => absurd h (by omega), fun _ => ⟨fun h => absurd e h, fun _ => ⟨⟨by omega, by omega⟩, by omega, by omega, ?_⟩⟩⟩
    refine hn' (i + 1, n + 1, ag, upv vals n (v i), times, tot, i8) _ (by unfold st1; simp [e]) ⟨fun q h6 h7 => by rw [up_off h7, r1 q h6 h7], fun j hj => r2 j hj, r3', fun j hj => ?_⟩
    show up g' 141 n (v i) 141 j = upv vals n (v i) j
    rw [up_at]
    unfold upv
    by_cases hjn : j = n
    · rw [if_pos hjn, if_pos hjn]
    · have hj' : j < n + 1 := hj
      rw [if_neg hjn, if_neg hjn]; exact r4' j (by omega)
  · have hv8 := h1 e
    have ex : g' 140 (v i).toNat = if v i = 8 then i8 else nm (v i).toNat := by
      by_cases hv8' : v i = 8
      · rw [if_pos hv8', hv8']; exact r3'
      · rw [if_neg hv8']; exact r2 _ (by omega)
    have exb : 0 ≤ (if v i = 8 then i8 else nm (v i).toNat) ∧ (if v i = 8 then i8 else nm (v i).toNat) ≤ 9999 := by
      split
      · rename_i h; have := hv8.2.2 h; omega
      · exact hnm _ (by omega) (fun hp => by have := hv8.2.1 hp; omega)
    rw [ex]
    refine ⟨fun h => absurd h (by omega), fun _ => ⟨fun _ => ⟨by omega, by omega, ⟨by omega, by omega⟩, by omega, by omega, ?_⟩, fun h => absurd h (by omega)⟩⟩
    refine hn' (i + 1, n + 1, ag, upv vals n (if v i = 8 then i8 else nm (v i).toNat), times, tot, i8) _ (by unfold st1; simp [e]) ⟨fun q h6 h7 => by rw [up_off h7, r1 q h6 h7], fun j hj => r2 j hj, r3', fun j hj => ?_⟩
    show up g' 141 n _ 141 j = upv vals n _ j
    rw [up_at]
    unfold upv
    by_cases hjn : j = n
    · rw [if_pos hjn, if_pos hjn]
    · have hj' : j < n + 1 := hj
      rw [if_neg hjn, if_neg hjn]; exact r4' j (by omega)
  · have hv9 := h2 e
    refine ⟨fun _ => ⟨fun h => absurd e h, fun _ => ?_⟩, fun h => absurd h (by omega)⟩
    rw [show ((i : Int)) = ((i + 1 : Nat) : Int) - 1 by omega, show ((i + 1 : Nat) : Int) - 1 + 1 = ((i + 1 : Nat) : Int) by omega]
    refine hn' (i + 1, n, i + 1, vals, v i, 0, 0) _ (by unfold st1; simp [e]) ⟨fun q h6 h7 => by rw [up_off h6, r1 q h6 h7], fun j hj => ?_, ?_, fun j hj => ?_⟩
    · rw [up_at, if_neg (by omega)]; exact r2 j hj
    · rw [up_at, if_pos rfl]
    · exact r4' j hj
  · have hn1 := h3 (Or.inl e)
    have hxv := hv (n - 1) (by omega)
    refine ⟨fun _ => ⟨fun _ => ⟨fun h => absurd e h, fun _ => ⟨by omega, by omega, ?_⟩⟩, fun h => absurd h (by omega)⟩, fun h => absurd h (by omega)⟩
    rw [show ((n : Int) - 1).toNat = n - 1 by omega, r4' (n - 1) (by omega)]
    refine hn' (i + 1, n, ag, upv vals (n - 1) (-(vals (n - 1))), times, tot, i8) _ (by unfold st1; simp [e]) ⟨fun q h6 h7 => by rw [up_off h7, r1 q h6 h7], fun j hj => r2 j hj, r3', fun j hj => ?_⟩
    show up g' 141 (n - 1) _ 141 j = upv vals (n - 1) _ j
    rw [up_at]
    unfold upv
    by_cases hjn : j = n - 1
    · rw [if_pos hjn, if_pos hjn]
    · rw [if_neg hjn, if_neg hjn]; exact r4' j hj
  · have hn1 := h3 (Or.inr e)
    have hxv := hv (n - 1) (by omega)
    have h58 := h5 e
    refine ⟨fun _ => ⟨fun _ => ⟨fun _ => ⟨fun h => absurd e h, fun _ => ⟨by omega, by omega, ?_⟩⟩, fun h => absurd h (by omega)⟩, fun h => absurd h (by omega)⟩, fun h => absurd h (by omega)⟩
    rw [show ((n : Int) - 1).toNat = n - 1 by omega, r4' (n - 1) (by omega)]
    refine s_X12_held ⟨by omega, by omega⟩ ?_
    rw [r3']
    refine ⟨⟨by omega, by omega⟩, ⟨by omega, by omega⟩, fun h => ?_, fun h => ?_⟩
    · refine hn' (i + 1, n, ag, upv vals (n - 1) (hld (tot + vals (n - 1))), times, hld (tot + vals (n - 1)), i8 + 1) _ (by unfold st1; simp [e]; intro h9; exact absurd h9 (by omega)) ⟨fun q h6 h7 => by rw [up_off h6, up_off h7, r1 q h6 h7], fun j hj => ?_, ?_, fun j hj => ?_⟩
      · rw [up_at, if_neg (by omega), up_off (by decide)]; exact r2 j hj
      · rw [up_at, if_pos rfl]
      · rw [up_off (q := 141) (by decide)]
        show up g' 141 (n - 1) _ 141 j = upv vals (n - 1) _ j
        rw [up_at]
        unfold upv
        by_cases hjn : j = n - 1
        · rw [if_pos hjn, if_pos hjn]
        · rw [if_neg hjn, if_neg hjn]; exact r4' j hj
    · rw [show ((n : Int) + (-1)) = ((n - 1 : Nat) : Int) by omega, show ((ag : Int) - 1 + 1) = (ag : Int) by omega]
      refine hn' (ag, n - 1, ag, upv vals (n - 1) (hld (tot + vals (n - 1))), times, hld (tot + vals (n - 1)), i8 + 1) _ (by unfold st1; simp [e]; intro h9; exact absurd h9 (by omega)) ⟨fun q h6 h7 => by rw [up_off h6, up_off h7, r1 q h6 h7], fun j hj => ?_, ?_, fun j hj => ?_⟩
      · rw [up_at, if_neg (by omega), up_off (by decide)]; exact r2 j hj
      · rw [up_at, if_pos rfl]
      · have hj' : j < n - 1 := hj
        rw [up_off (q := 141) (by decide)]
        show up g' 141 (n - 1) _ 141 j = upv vals (n - 1) _ j
        rw [up_at]
        unfold upv
        rw [if_neg (by omega), if_neg (by omega)]; exact r4' j (by omega)
  · have hn2 := h4 e.1 e.2
    have hxv := hv (n - 2) (by omega)
    have hyv := hv (n - 1) (by omega)
    refine ⟨fun _ => ⟨fun _ => ⟨fun _ => ⟨fun _ => ⟨by omega, by omega, by omega, by omega, ?_⟩, fun h => absurd h (by omega)⟩, fun h => absurd h (by omega)⟩, fun h => absurd h (by omega)⟩, fun h => absurd h (by omega)⟩
    rw [show (((n : Int) + (-1)) - 1).toNat = n - 2 by omega, show ((n : Int) + (-1)).toNat = n - 1 by omega, r4' (n - 2) (by omega), r4' (n - 1) (by omega)]
    refine s_X12_two e hxv hyv ?_
    rw [show ((n : Int) + (-1)) = ((n - 1 : Nat) : Int) by omega]
    refine hn' (i + 1, n - 1, ag, upv vals (n - 2) (twoV (o i) (vals (n - 2)) (vals (n - 1))), times, tot, i8) _ (by unfold st1; simp [show ¬ o i = 0 by omega, show ¬ o i = 1 by omega, show ¬ o i = 2 by omega, show ¬ o i = 3 by omega, show ¬ o i = 8 by omega]) ⟨fun q h6 h7 => by rw [up_off h7, r1 q h6 h7], fun j hj => r2 j hj, r3', fun j hj => ?_⟩
    have hj' : j < n - 1 := hj
    show up g' 141 (n - 2) _ 141 j = upv vals (n - 2) _ j
    rw [up_at]
    unfold upv
    by_cases hjn : j = n - 2
    · rw [if_pos hjn, if_pos hjn]
    · rw [if_neg hjn, if_neg hjn]; exact r4' j (by omega)
theorem wrk_sim {d x cd lo hi : Nat} {pays : Bool} {dd : List (Nat × Nat)} {sh : Nat → Nat → Nat} {gb : Nat → Nat → Int} {K : Int → (Nat → Nat → Int) → Prop} {o v nm : Nat → Int} (hx : x + 2 < 2724) (hcd : cd + 2 * hi ≤ 2724) (hhi : gb 137 (x + 2) = hi) (hhi2 : hi ≤ 1000)
    (hcode : ∀ i, lo ≤ i → i < hi → gb 137 (cd + 2 * i) = o i ∧ gb 137 (cd + 2 * i + 1) = v i) (hnm : ∀ j, j < 8 → (pays = true → j < 5) → 0 ≤ nm j ∧ nm j ≤ 9999) :
    ∀ (k : Nat) (s t : SS), Run o v nm pays lo hi k s t → (∀ g', RelR gb g' nm t → R44 (d + 2) x cd dd sh K t g') → ∀ g', RelR gb g' nm s → R44 (d + 2) x cd dd sh K s g' := by
  intro k
  induction k with
  | zero => intro s t hr hf g' hg; have e : s = t := hr; rw [e] at hg ⊢; exact hf g' hg
  | succ k ih =>
    intro s t hr hf g' hg
    exact wrk_step hx hcd hhi hhi2 hcode hnm hr.1 (fun g'' hg'' => ih _ t hr.2 hf g'' hg'') g' hg
