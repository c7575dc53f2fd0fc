-- facing, the best seat
def pnF (se : Nat → Int) (a b : Nat) : Int := if a < b then fc (se a) (se b) else 0
/-- twos that face: the class's order of counting, the reference's -/
def prN (se : Nat → Int) (n : Nat) : Int := sm (fun a => sm (pnF se a) n) n
def prR (se : Nat → Int) (n : Nat) : Int := sm (fun p => sm (fun q => fc (se p) (se q)) p) n
theorem pr_eq (se : Nat → Int) : ∀ n, prN se n = prR se n := by
  intro n
  induction n with
  | zero => rfl
  | succ n ih =>
    have h1 : prN se (n + 1) = sm (fun a => sm (pnF se a) n + pnF se a n) n + (sm (pnF se n) n + pnF se n n) := rfl
    have h2 : sm (fun a => sm (pnF se a) n + pnF se a n) n = prN se n + sm (fun a => pnF se a n) n := sm_add _ _ n
    have h3 : sm (pnF se n) n = 0 := sm_zero (n := 0) (by omega) fun k _ hk => if_neg (by omega)
    have h4 : pnF se n n = 0 := if_neg (by omega)
    have h5 : sm (fun a => pnF se a n) n = sm (fun q => fc (se n) (se q)) n := sm_congr fun k hk => by
      show (if k < n then fc (se k) (se n) else 0) = _
      rw [if_pos hk, fc_comm]
    have h6 : prR se (n + 1) = prR se n + sm (fun q => fc (se n) (se q)) n := rfl
    omega
theorem prN_congr {se se' : Nat → Int} {n : Nat} (h : ∀ k, k < n → se k = se' k) : prN se n = prN se' n := by
  refine sm_congr fun a ha => sm_congr fun b hb => ?_
  unfold pnF
  rw [h a ha, h b hb]
theorem prN_b (se : Nat → Int) {n : Nat} (hn : n ≤ 6) : 0 ≤ prN se n ∧ prN se n ≤ 36 := by
  have h1 : ∀ a, 0 ≤ sm (pnF se a) n ∧ sm (pnF se a) n ≤ 6 := fun a => by
    have := sm_bound (f := pnF se a) (n := n) (B := 1) fun k _ => by
      have := fc01 (se a) (se k)
      unfold pnF; split <;> omega
    omega
  have := sm_bound (f := fun a => sm (pnF se a) n) (n := n) (B := 6) fun k _ => h1 k
  unfold prN
  omega
theorem s_X10_pairsOn {d : Nat} {dd : List (Nat × Nat)} {sh : Nat → Nat → Nat} {g : Nat → Nat → Int} {K : Int → (Nat → Nat → Int) → Prop} {p1 n : Nat} (hp : p1 ≠ 0) (hT : (T0 ++ dyn dd)[p1]? = some (0, 6)) (hn : g 3 0 = n) (hn2 : n ≤ 6) (hb : ∀ k, k < n → 0 ≤ g p1 k ∧ g p1 k ≤ 39) (hK : K (prN (g p1) n) g) : cI (d + 3) m_X10_pairsOn [(vR 128), (vR p1)] dd sh g K := by
  refine mkI (ls := [some (vR 128), some (vR p1), none, none, none]) rfl rfl rfl rfl rfl (r_X10_pairsOn_0 ?_)
  refine loop (P := fun k => rI (d + 2) m_X10_pairsOn 4 [some (vR 128), some (vR p1), some (vI (sm (fun a => sm (pnF (g p1) a) n) k)), some (vI ((k : Int))), none] [] dd sh g K) (n := n) ?_ ?_ 0 (by omega)
  · refine r_X10_pairsOn_4 ?_
    rw [hn]
    exact ⟨⟨by omega, by omega⟩, ⟨by omega, by omega⟩, fun _ => hK, fun h => absurd h (by omega)⟩
  · intro k hk ih
    have ihx : rI (d + 2) m_X10_pairsOn 4 [some (vR 128), some (vR p1), some (vI (sm (fun a => sm (pnF (g p1) a) n) k + sm (pnF (g p1) k) n)), some (vI (((k + 1 : Nat) : Int))), none] [] dd sh g K := ih
    refine r_X10_pairsOn_4 ?_
    rw [hn, lenT hT]
    refine ⟨⟨by omega, by omega⟩, ⟨by omega, by omega⟩, fun h => absurd h (by omega), fun _ => ⟨arT hp hT, ⟨by decide, by decide⟩, fun h => absurd h (by omega), fun _ => ?_⟩⟩
    have h0 : sm (pnF (g p1) k) (k + 1) = 0 := sm_zero (n := 0) (by omega) fun j _ hj => if_neg (by omega)
    have hin := loop (P := fun j => k + 1 ≤ j → rI (d + 2) m_X10_pairsOn 26 [some (vR 128), some (vR p1), some (vI (sm (fun a => sm (pnF (g p1) a) n) k + sm (pnF (g p1) k) j)), some (vI ((k : Int))), some (vI ((j : Int)))] [] dd sh g K) (n := n) ?_ ?_ (k + 1) (by omega) (Nat.le_refl _)
    · rw [h0, Int.add_zero] at hin
      exact hin
    · intro _
      refine r_X10_pairsOn_26 ?_
      rw [hn]
      exact ⟨⟨by omega, by omega⟩, ⟨by omega, by omega⟩, fun _ => ihx, fun h => absurd h (by omega)⟩
    · intro j hj ihj hkj
      have ihjx : ∀ x, x = pnF (g p1) k j → rI (d + 2) m_X10_pairsOn 26 [some (vR 128), some (vR p1), some (vI (sm (fun a => sm (pnF (g p1) a) n) k + sm (pnF (g p1) k) j + x)), some (vI ((k : Int))), some (vI (((j + 1 : Nat) : Int)))] [] dd sh g K := fun x hx => by
        rw [hx, Int.add_assoc]; exact ihj (by omega)
      have hp1 : pnF (g p1) k j = fc (g p1 k) (g p1 j) := if_pos (by omega)
      have hf := fc01 (g p1 k) (g p1 j)
      have hbk := hb k hk
      have hbj := hb j hj
      refine r_X10_pairsOn_26 ?_
      rw [hn, lenT hT, show ((k : Int)).toNat = k from rfl, show ((j : Int)).toNat = j from rfl]
      refine ⟨⟨by omega, by omega⟩, ⟨by omega, by omega⟩, fun h => absurd h (by omega), fun _ => ⟨arT hp hT, ⟨by decide, by decide⟩, fun h => absurd h (by omega), fun _ => ⟨by omega, by omega, by omega, by omega, ?_⟩⟩⟩
      refine s_X10_faces (by omega) (by omega) ⟨by omega, fun h => ?_, fun h => ?_⟩
      · have := ihjx 0 (by omega)
        rw [Int.add_zero] at this; exact this
      · exact ihjx 1 (by omega)
theorem s_X12_laySeats {d : Nat} {dd : List (Nat × Nat)} {sh : Nat → Nat → Nat} {g : Nat → Nat → Int} {K : (Nat → Nat → Int) → Prop} {n : Nat} (hA : AB (g 135)) (hn : g 135 0 = n) (hK : ∀ g', (∀ q, q ≠ 147 → g' q = g q) → (∀ i, i < n → g' 147 i = g 135 (18 + 7 * i)) → K g') : cV (d + 2) m_X12_laySeats [(vR 134)] dd sh g K := by
  have en := hA.n
  refine mkV (ls := [some (vR 134), none]) rfl rfl rfl rfl rfl (r_X12_laySeats_0 ?_)
  refine loop (P := fun k => ∀ g', (∀ q, q ≠ 147 → g' q = g q) → (∀ i, i < k → g' 147 i = g 135 (18 + 7 * i)) → rV (d + 1) m_X12_laySeats 2 [some (vR 134), some (vI ((k : Int)))] [] dd sh (g') K) (n := n) ?_ ?_ 0 (by omega) g (fun q hq => rfl) (fun i hi => absurd hi (by omega))
  · intro g' h1 h2
    refine r_X12_laySeats_2 ?_
    rw [h1 135 (by decide), hn]
    exact ⟨⟨by omega, by omega⟩, ⟨by omega, by omega⟩, fun _ => hK g' h1 h2, fun h => absurd h (by omega)⟩
  · intro k hk ih g' h1 h2
    refine r_X12_laySeats_2 ?_
    rw [h1 135 (by decide), hn]
    refine ⟨⟨by omega, by omega⟩, ⟨by omega, by omega⟩, fun h => absurd h (by omega), fun _ => ?_⟩
    refine s_get2 (by omega) ⟨by omega, by omega, ?_⟩
    rw [show ((k : Int)).toNat = k from rfl, h1 135 (by decide)]
    refine ih _ (fun q hq => by rw [up_off hq, h1 q hq]) (fun i hi => ?_)
    rw [up_at]
    by_cases hik : i = k
    · subst hik; rw [if_pos rfl]
    · rw [if_neg hik]; exact h2 i (by omega)
theorem s_X12_facingNow {d : Nat} {dd : List (Nat × Nat)} {sh : Nat → Nat → Nat} {g : Nat → Nat → Int} {K : Int → (Nat → Nat → Int) → Prop} {n : Nat} (hn : g 135 0 = n) (hn2 : n ≤ 6) (hb : ∀ k, k < n → 0 ≤ g 147 k ∧ g 147 k ≤ 39) (hK : K (prR (g 147) n) g) : cI (d + 3) m_X12_facingNow [(vR 134)] dd sh g K := by
  refine mkI (ls := [some (vR 134), none, none, none]) rfl rfl rfl rfl rfl (r_X12_facingNow_0 ?_)
  refine loop (P := fun k => rI (d + 2) m_X12_facingNow 4 [some (vR 134), some (vI (sm (fun p => sm (fun q => fc (g 147 p) (g 147 q)) p) k)), some (vI ((k : Int))), none] [] dd sh g K) (n := n) ?_ ?_ 0 (by omega)
  · refine r_X12_facingNow_4 ?_
    rw [hn]
    exact ⟨⟨by omega, by omega⟩, ⟨by omega, by omega⟩, fun _ => hK, fun h => absurd h (by omega)⟩
  · intro k hk ih
    have ihx : rI (d + 2) m_X12_facingNow 4 [some (vR 134), some (vI (sm (fun p => sm (fun q => fc (g 147 p) (g 147 q)) p) k + sm (fun q => fc (g 147 k) (g 147 q)) k)), some (vI (((k + 1 : Nat) : Int))), none] [] dd sh g K := ih
    refine r_X12_facingNow_4 ?_
    rw [hn]
    refine ⟨⟨by omega, by omega⟩, ⟨by omega, by omega⟩, fun h => absurd h (by omega), fun _ => ?_⟩
    have hin := loop (P := fun j => rI (d + 2) m_X12_facingNow 16 [some (vR 134), some (vI (sm (fun p => sm (fun q => fc (g 147 p) (g 147 q)) p) k + sm (fun q => fc (g 147 k) (g 147 q)) j)), some (vI ((k : Int))), some (vI ((j : Int)))] [] dd sh g K) (n := k) ?_ ?_ 0 (by omega)
    · rw [show sm (fun q => fc (g 147 k) (g 147 q)) 0 = 0 from rfl, Int.add_zero] at hin
      exact hin
    · exact r_X12_facingNow_16 ⟨⟨by omega, by omega⟩, ⟨by omega, by omega⟩, fun _ => ihx, fun h => absurd h (by omega)⟩
    · intro j hj ihj
      have ihjx : ∀ x, x = fc (g 147 k) (g 147 j) → rI (d + 2) m_X12_facingNow 16 [some (vR 134), some (vI (sm (fun p => sm (fun q => fc (g 147 p) (g 147 q)) p) k + sm (fun q => fc (g 147 k) (g 147 q)) j + x)), some (vI ((k : Int))), some (vI (((j + 1 : Nat) : Int)))] [] dd sh g K := fun x hx => by
        rw [hx, Int.add_assoc]; exact ihj
      have hf := fc01 (g 147 k) (g 147 j)
      have hbk := hb k hk
      have hbj := hb j (by omega)
      refine r_X12_facingNow_16 ?_
      rw [show ((k : Int)).toNat = k from rfl, show ((j : Int)).toNat = j from rfl]
      refine ⟨⟨by omega, by omega⟩, ⟨by omega, by omega⟩, fun h => absurd h (by omega), fun _ => ⟨by omega, by omega, by omega, by omega, ?_⟩⟩
      exact s_X12_areFacing (by omega) (by omega) ⟨by omega, fun h => ihjx 0 (by omega), fun h => ihjx 1 (by omega)⟩
theorem sim_facing : S_facing := by
  intro dd sh g hI
  have hA := hI.s.ab
  have en := hA.n
  have e0 := hI.s.n
  obtain ⟨n, hn⟩ := Int.eq_ofNat_of_zero_le en.1
  unfold SimI
  refine mkI (ls := [some (vR 1)]) rfl rfl rfl rfl rfl (r_X11_facing_0 ?_)
  refine mkI (ls := [some (vR 128)]) rfl rfl rfl rfl rfl (r_X10_pairsAsNow_0 ?_)
  refine s_X10_pairsOn (n := n) (by decide) (T_5 dd) (by omega) (by omega) (fun k hk => (hI.s.pb k (by omega)).2.1) ?_
  refine mkI (ls := [some (vR 134)]) rfl rfl rfl rfl rfl (r_X12_facing_0 ?_)
  refine s_X12_laySeats hA hn fun g1 f1 f2 => ?_
  refine s_X12_facingNow (n := n) (by rw [f1 135 (by decide)]; exact hn) (by omega) (fun k hk => by rw [f2 k hk]; have := hA.pp k (by omega) (by omega); omega) ?_
  have hb := prN_b (g 5) (n := n) (by omega)
  refine ⟨?_, ⟨by omega, by omega⟩, hI.scr ClScr.rf ⟨fun q hq => f1 q (by omega), fun k hk => by rw [f1 134 (by decide)]⟩⟩
  rw [← pr_eq]
  exact prN_congr fun k hk => by rw [f2 k hk]; exact (hI.s.pp k (by omega) (by omega)).2.2.1
-- the best seat
noncomputable def bsF (a : Nat → Int) (p : Nat) (v : Nat) : Int := @ite Int ((v : Int) = a (18 + 7 * p) ∨ free a v) (Classical.propDecidable _) (fbN a p v) (-1)
theorem bsF_b {a : Nat → Int} (h : 0 ≤ a 0 ∧ a 0 ≤ 6) (p v : Nat) : -1 ≤ bsF a p v ∧ bsF a p v ≤ 6 := by
  have := fbN_b h p v
  unfold bsF; split <;> omega
theorem s_X10_seatFacingMost {d : Nat} {dd : List (Nat × Nat)} {sh : Nat → Nat → Nat} {g : Nat → Nat → Int} {K : Int → (Nat → Nat → Int) → Prop} {p : Nat} {v2 : Int} {a : Nat → Int} (hS : RSc g a) (hp : p < 6) (hq : (p : Int) < a 0) (h2 : v2 = 0 ∨ v2 = 1) (hK : K (if v2 = 0 then (am (bsF a p) (-1) 40).1 else (am (bsF a p) (-1) 40).2) g) : cI (d + 4) m_X10_seatFacingMost [(vR 128), (vI ((p : Int))), (vI v2)] dd sh g K := by
  have en := hS.n
  have hpp := hS.pp p hp hq
  have hpb := hS.pb p hp
  refine mkI (ls := [some (vR 128), some (vI ((p : Int))), some (vI v2), none, none, none, none]) rfl rfl rfl rfl rfl (r_X10_seatFacingMost_0 ?_)
  refine loop (P := fun k => rI (d + 3) m_X10_seatFacingMost 8 [some (vR 128), some (vI ((p : Int))), some (vI v2), some (vI ((am (bsF a p) (-1) k).1)), some (vI ((am (bsF a p) (-1) k).2)), some (vI ((k : Int))), none] [] dd sh g K) (n := 40) ?_ ?_ 0 (by omega)
  · refine r_X10_seatFacingMost_8 ⟨⟨by omega, by omega⟩, fun _ => ⟨by omega, fun h => ?_, fun h => ?_⟩, fun h => absurd h (by omega)⟩
    · rw [if_pos h] at hK; exact hK
    · rw [if_neg h] at hK; exact hK
  · intro k hk ih
    have ihx : rI (d + 3) m_X10_seatFacingMost 8 [some (vR 128), some (vI ((p : Int))), some (vI v2), some (vI ((am (bsF a p) (-1) (k + 1)).1)), some (vI ((am (bsF a p) (-1) (k + 1)).2)), some (vI (((k + 1 : Nat) : Int))), none] [] dd sh g K := ih
    have ihA : (am (bsF a p) (-1) k).2 < (bsF a p) k → rI (d + 3) m_X10_seatFacingMost 8 [some (vR 128), some (vI ((p : Int))), some (vI v2), some (vI ((k : Int))), some (vI ((bsF a p) k)), some (vI (((k + 1 : Nat) : Int))), none] [] dd sh g K := fun h9 => by have h8 := ihx; rw [show am (bsF a p) (-1) (k + 1) = ((k : Int), (bsF a p) k) from if_pos h9] at h8; exact h8
    have ihB : ¬ (am (bsF a p) (-1) k).2 < (bsF a p) k → rI (d + 3) m_X10_seatFacingMost 8 [some (vR 128), some (vI ((p : Int))), some (vI v2), some (vI ((am (bsF a p) (-1) k).1)), some (vI ((am (bsF a p) (-1) k).2)), some (vI (((k + 1 : Nat) : Int))), none] [] dd sh g K := fun h9 => by have h8 := ihx; rw [show am (bsF a p) (-1) (k + 1) = am (bsF a p) (-1) k from if_neg h9] at h8; exact h8
    have hfb := fbN_b en.2 p k
    have hm : -1 ≤ (am (bsF a p) (-1) k).2 ∧ (am (bsF a p) (-1) k).2 ≤ 6 := by
      rcases am_inv (bsF a p) (-1) k with e | ⟨j, hj, e, -⟩
      · rw [e]; exact ⟨Int.le_refl _, by show (-1 : Int) ≤ 6; decide⟩
      · rw [e]; exact bsF_b en.2 p j
    refine r_X10_seatFacingMost_8 ?_
    rw [show ((p : Int)).toNat = p from rfl, hpp.2.2.1]
    have hit : ((k : Int) = a (18 + 7 * p) ∨ free a k) → cI (d + 3) m_X10_facedFrom [vR 128, vI (p : Int), vI (k : Int)] dd sh g (fun r11 g12 => (i32 r11) ∧ (i32 (am (bsF a p) (-1) k).2) ∧ ((r11 ≤ (am (bsF a p) (-1) k).2 → rI (d + 3) m_X10_seatFacingMost 8 [some (vR 128), some (vI ((p : Int))), some (vI v2), some (vI ((am (bsF a p) (-1) k).1)), some (vI ((am (bsF a p) (-1) k).2)), some (vI (((k : Int) + 1))), none] [] dd sh g12 K) ∧ ((am (bsF a p) (-1) k).2 < r11 → rI (d + 3) m_X10_seatFacingMost 8 [some (vR 128), some (vI ((p : Int))), some (vI v2), some (vI ((k : Int))), some (vI r11), some (vI (((k : Int) + 1))), none] [] dd sh g12 K))) := by
      intro hc
      have e : bsF a p k = fbN a p k := if_pos hc
      rw [e] at ihA ihB
      refine s_X10_facedFrom hS (by omega) (by omega) ⟨by omega, by omega, fun h => ihB (by omega), fun h => ihA (by omega)⟩
    have hno : ¬ ((k : Int) = a (18 + 7 * p) ∨ free a k) → rI (d + 3) m_X10_seatFacingMost 8 [some (vR 128), some (vI ((p : Int))), some (vI v2), some (vI ((am (bsF a p) (-1) k).1)), some (vI ((am (bsF a p) (-1) k).2)), some (vI (((k : Int) + 1))), none] [] dd sh g K := by
      intro hc
      have e : bsF a p k = -1 := if_neg hc
      exact ihB (by omega)
    refine ⟨⟨by omega, by omega⟩, fun h => absurd h (by omega), fun _ => ⟨by omega, by omega, by omega, fun h => hit (Or.inl h), fun h => ?_⟩⟩
    refine s_X7_isFree hS (by omega) (fun hf => ⟨⟨by decide, by decide⟩, fun h => absurd h (by decide), fun _ => hit (Or.inr hf)⟩) (fun hf => ⟨⟨by decide, by decide⟩, fun _ => hno ?_, fun h => absurd rfl h⟩)
    intro hc
    rcases hc with hc | hc
    · exact h hc
    · exact hf hc
theorem s_X12_bestSeat {d : Nat} {dd : List (Nat × Nat)} {sh : Nat → Nat → Nat} {g : Nat → Nat → Int} {K : Int → (Nat → Nat → Int) → Prop} {p : Nat} {v2 : Int} (hA : AB (g 135)) (hp : p < 6) (hq : (p : Int) < g 135 0) (h2 : v2 = 0 ∨ v2 = 1) (hK : K (if v2 = 0 then (am (bsF (g 135) p) (-1) 40).1 else (am (bsF (g 135) p) (-1) 40).2) g) : cI (d + 4) m_X12_bestSeat [(vR 134), (vI ((p : Int))), (vI v2)] dd sh g K := by
  have en := hA.n
  have hpp := hA.pp p hp hq
  refine mkI (ls := [some (vR 134), some (vI ((p : Int))), some (vI v2), none, none]) rfl rfl rfl rfl rfl (r_X12_bestSeat_0 ?_)
  refine s_X12_isSuspect en (by omega) (fun _ _ => ?_) (fun h => absurd h (by omega))
  refine ⟨⟨by decide, by decide⟩, fun _ => ?_, fun h => absurd h (by decide)⟩
  have hcur : ∀ k, k ≤ 40 → (am (bsF (g 135) p) (-1) k = (-1, -1) ∧ ((k : Int) ≤ g 135 (18 + 7 * p))) ∨ ∃ j : Nat, j < 40 ∧ am (bsF (g 135) p) (-1) k = ((j : Int), fbN (g 135) p j) := by
    intro k
    induction k with
    | zero => intro _; exact Or.inl ⟨rfl, by omega⟩
    | succ k ih =>
      intro hk
      by_cases hc : (am (bsF (g 135) p) (-1) k).2 < bsF (g 135) p k
      · refine Or.inr ⟨k, by omega, ?_⟩
        rw [show am (bsF (g 135) p) (-1) (k + 1) = ((k : Int), bsF (g 135) p k) from if_pos hc]
        have hne : ((k : Int) = g 135 (18 + 7 * p) ∨ free (g 135) k) := by
          refine Classical.byContradiction fun hn => ?_
          have e : bsF (g 135) p k = -1 := if_neg hn
          rcases ih (by omega) with ⟨e2, -⟩ | ⟨j, hj, e2⟩
          · rw [e2, e] at hc; exact absurd hc (by decide)
          · rw [e2, e] at hc
            have := fbN_b en p j
            have hc' : fbN (g 135) p j < -1 := hc
            omega
        rw [show bsF (g 135) p k = fbN (g 135) p k from if_pos hne]
      · rw [show am (bsF (g 135) p) (-1) (k + 1) = am (bsF (g 135) p) (-1) k from if_neg hc]
        rcases ih (by omega) with ⟨e2, e3⟩ | ⟨j, hj, e2⟩
        · refine Or.inl ⟨e2, ?_⟩
          rw [e2] at hc
          have hc' : ¬ -1 < bsF (g 135) p k := hc
          by_cases hk2 : (k : Int) = g 135 (18 + 7 * p)
          · have e : bsF (g 135) p k = fbN (g 135) p k := if_pos (Or.inl hk2)
            have := fbN_b en p k
            omega
          · omega
        · exact Or.inr ⟨j, hj, e2⟩
  refine loop (P := fun k => rI (d + 3) m_X12_bestSeat 15 [some (vR 134), some (vI ((p : Int))), some (vI v2), some (vI ((am (bsF (g 135) p) (-1) k).1)), some (vI ((k : Int)))] [] dd sh g K) (n := 40) ?_ ?_ 0 (by omega)
  · rcases hcur 40 (by omega) with ⟨-, e⟩ | ⟨j, hj, e⟩
    · exact absurd e (by omega)
    · show rI (d + 3) m_X12_bestSeat 15 [some (vR 134), some (vI ((p : Int))), some (vI v2), some (vI ((am (bsF (g 135) p) (-1) 40).1)), some (vI (((40 : Nat) : Int)))] [] dd sh g K
      rw [e] at hK ⊢
      refine r_X12_bestSeat_15 ⟨⟨by omega, by omega⟩, fun _ => ⟨by omega, fun h => ?_, fun h => ?_⟩, fun h => absurd h (by omega)⟩
      · rw [if_pos h] at hK; exact hK
      · rw [if_neg h] at hK
        exact s_X12_facedBy hA (by omega) (by omega) hK
  · intro k hk ih
    have ihx : rI (d + 3) m_X12_bestSeat 15 [some (vR 134), some (vI ((p : Int))), some (vI v2), some (vI ((am (bsF (g 135) p) (-1) (k + 1)).1)), some (vI (((k + 1 : Nat) : Int)))] [] dd sh g K := ih
    have ihA : (am (bsF (g 135) p) (-1) k).2 < (bsF (g 135) p) k → rI (d + 3) m_X12_bestSeat 15 [some (vR 134), some (vI ((p : Int))), some (vI v2), some (vI ((k : Int))), some (vI (((k + 1 : Nat) : Int)))] [] dd sh g K := fun h9 => by have h8 := ihx; rw [show am (bsF (g 135) p) (-1) (k + 1) = ((k : Int), (bsF (g 135) p) k) from if_pos h9] at h8; exact h8
    have ihB : ¬ (am (bsF (g 135) p) (-1) k).2 < (bsF (g 135) p) k → rI (d + 3) m_X12_bestSeat 15 [some (vR 134), some (vI ((p : Int))), some (vI v2), some (vI ((am (bsF (g 135) p) (-1) k).1)), some (vI (((k + 1 : Nat) : Int)))] [] dd sh g K := fun h9 => by have h8 := ihx; rw [show am (bsF (g 135) p) (-1) (k + 1) = am (bsF (g 135) p) (-1) k from if_neg h9] at h8; exact h8
    have hfb := fbN_b en p k
    have hno : ¬ ((k : Int) = g 135 (18 + 7 * p) ∨ free (g 135) k) → rI (d + 3) m_X12_bestSeat 15 [some (vR 134), some (vI ((p : Int))), some (vI v2), some (vI ((am (bsF (g 135) p) (-1) k).1)), some (vI (((k : Int) + 1)))] [] dd sh g K := by
      intro hc
      have e : bsF (g 135) p k = -1 := if_neg hc
      refine ihB ?_
      rw [e]
      rcases hcur k (by omega) with ⟨e2, -⟩ | ⟨j, hj, e2⟩
      · rw [e2]; decide
      · rw [e2]
        have := fbN_b en p j
        show ¬ fbN (g 135) p j < -1
        omega
    rcases hcur k (by omega) with ⟨e2, e3⟩ | ⟨j, hj, e2⟩
    · have hit : ((k : Int) = g 135 (18 + 7 * p) ∨ free (g 135) k) → rI (d + 3) m_X12_bestSeat 15 [some (vR 134), some (vI ((p : Int))), some (vI v2), some (vI ((k : Int))), some (vI (((k : Int) + 1)))] [] dd sh g K := by
        intro hc
        have e : bsF (g 135) p k = fbN (g 135) p k := if_pos hc
        refine ihA ?_
        rw [e2, e]
        show (-1 : Int) < fbN (g 135) p k
        omega
      show rI (d + 3) m_X12_bestSeat 15 [some (vR 134), some (vI ((p : Int))), some (vI v2), some (vI ((am (bsF (g 135) p) (-1) k).1)), some (vI ((k : Int)))] [] dd sh g K
      rw [e2] at hno ⊢
      refine r_X12_bestSeat_15 ⟨⟨by omega, by omega⟩, fun h => absurd h (by omega), fun _ => ?_⟩
      refine s_get2 hp ⟨by omega, fun h => ⟨⟨by decide, by decide⟩, fun _ => hit (Or.inl h), fun h => absurd rfl h⟩, fun h => ?_⟩
      refine s_X12_isFree hA (by omega) (fun hf => ⟨⟨by decide, by decide⟩, fun h => absurd h (by decide), fun _ => ⟨⟨by decide, by decide⟩, fun _ => hit (Or.inr hf), fun h => absurd rfl h⟩⟩) (fun hf => ⟨⟨by decide, by decide⟩, fun _ => hno ?_, fun h => absurd rfl h⟩)
      intro hc
      rcases hc with hc | hc
      · exact h hc
      · exact hf hc
    · have hfj := fbN_b en p j
      have hit : ((k : Int) = g 135 (18 + 7 * p) ∨ free (g 135) k) → cI (d + 3) m_X12_facedBy [vR 134, vI (p : Int), vI (k : Int)] dd sh g (fun r14 g15 => cI (d + 3) m_X12_facedBy [vR 134, vI (p : Int), vI (j : Int)] dd sh g15 (fun r16 g17 => (i32 r14) ∧ (i32 r16) ∧ ((r14 ≤ r16 → rI (d + 3) m_X12_bestSeat 15 [some (vR 134), some (vI ((p : Int))), some (vI v2), some (vI ((j : Int))), some (vI (((k : Int) + 1)))] [] dd sh g17 K) ∧ (r16 < r14 → rI (d + 3) m_X12_bestSeat 15 [some (vR 134), some (vI ((p : Int))), some (vI v2), some (vI ((k : Int))), some (vI (((k : Int) + 1)))] [] dd sh g17 K)))) := by
        intro hc
        have e : bsF (g 135) p k = fbN (g 135) p k := if_pos hc
        rw [e2, e] at ihA
        rw [e2, e] at ihB
        exact s_X12_facedBy hA (by omega) (by omega) (s_X12_facedBy hA (by omega) (by omega) ⟨by omega, by omega, fun h => ihB (by show ¬ fbN (g 135) p j < fbN (g 135) p k; omega), fun h => ihA h⟩)
      show rI (d + 3) m_X12_bestSeat 15 [some (vR 134), some (vI ((p : Int))), some (vI v2), some (vI ((am (bsF (g 135) p) (-1) k).1)), some (vI ((k : Int)))] [] dd sh g K
      rw [e2] at hno ⊢
      refine r_X12_bestSeat_15 ⟨⟨by omega, by omega⟩, fun h => absurd h (by omega), fun _ => ?_⟩
      have hj1 : ¬ (j : Int) = -1 := by omega
      refine s_get2 hp ⟨by omega, fun h => ⟨by show i32 (j : Int); omega, fun h => absurd h hj1, fun _ => hit (Or.inl h)⟩, fun h => ?_⟩
      refine s_X12_isFree hA (by omega) (fun hf => ⟨⟨by decide, by decide⟩, fun h => absurd h (by decide), fun _ => ⟨by show i32 (j : Int); omega, fun h => absurd h hj1, fun _ => hit (Or.inr hf)⟩⟩) (fun hf => ⟨⟨by decide, by decide⟩, fun _ => hno ?_, fun h => absurd rfl h⟩)
      intro hc
      rcases hc with hc | hc
      · exact h hc
      · exact hf hc
theorem sim_bestSeat : S_bestSeat := by
  intro dd sh g hI a1 a2 h1 h2
  have hA := hI.s.ab
  have en := hA.n
  unfold SimI
  refine mkI (ls := [some (vR 1), some (vI a1), some (vI a2)]) rfl rfl rfl rfl rfl (r_X11_bestSeat_0 ?_)
  refine s_X7_hasSuspect hI.s h1 (fun h3 h4 => ?_) (fun h3 => ?_)
  · refine ⟨⟨by decide, by decide⟩, fun _ => ?_, fun h => absurd h (by decide)⟩
    obtain ⟨p, rfl⟩ := Int.eq_ofNat_of_zero_le h3
    refine s_X10_seatFacingMost hI.s (by omega) h4 h2 ?_
    refine s_X12_bestSeat hA (by omega) h4 h2 ⟨rfl, ?_, hI⟩
    have hb1 := am_i32 (bsF (g 135) p) (-1) (n := 40) (by decide)
    split
    · exact hb1
    · rcases am_inv (bsF (g 135) p) (-1) 40 with e | ⟨j, hj, e, -⟩
      · rw [e]; exact ⟨by decide, by decide⟩
      · rw [e]
        have := bsF_b en p j
        show i32 (bsF (g 135) p j)
        omega
  · refine ⟨⟨by decide, by decide⟩, fun h => absurd rfl h, fun _ => ?_⟩
    refine mkI (ls := [some (vR 134), some (vI a1), some (vI a2), none, none]) rfl rfl rfl rfl rfl (r_X12_bestSeat_0 ?_)
    refine s_X12_isSuspect en h1 (fun h5 h6 => absurd h3 (by omega)) (fun _ => ?_)
    exact ⟨⟨by decide, by decide⟩, fun h => absurd rfl h, fun _ => ⟨rfl, ⟨by decide, by decide⟩, hI⟩⟩
