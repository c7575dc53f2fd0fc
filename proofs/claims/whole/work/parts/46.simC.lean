-- suspect, scene, feed
/-- what one more scene does to the reference's cells -/
def scB (a b : Nat → Int) (n : Nat) (x y : Int) : Prop := (∀ k, k ≠ 1 → (k < 58 + 4 * n ∨ 61 + 4 * n < k) → b k = a k) ∧ b 1 = (n : Int) + 1 ∧ b (58 + 4 * n) = x ∧ b (59 + 4 * n) = y ∧ b (60 + 4 * n) = 0 ∧ b (61 + 4 * n) = 0
def susB (a b : Nat → Int) (n : Nat) (z x y : Int) : Prop := (∀ k, k ≠ 0 → (k < 16 + 7 * n ∨ 22 + 7 * n < k) → b k = a k) ∧ b 0 = (n : Int) + 1 ∧ b (16 + 7 * n) = z ∧ b (17 + 7 * n) = x ∧ b (18 + 7 * n) = y ∧ b (19 + 7 * n) = 0 ∧ b (20 + 7 * n) = 1 ∧ b (21 + 7 * n) = y ∧ b (22 + 7 * n) = 1
theorem s_X7_tellScene {d : Nat} {dd : List (Nat × Nat)} {sh : Nat → Nat → Nat} {g : Nat → Nat → Int} {K : Int → (Nat → Nat → Int) → Prop} {v1 v2 : Int} {a : Nat → Int} {n : Nat} (hS : RSc g a) (hn : a 1 = n) (h1 : i32 v1) (h2 : i32 v2) (hK : (0 ≤ v1 ∧ v1 ≤ 9) ∧ (1 ≤ v2 ∧ v2 ≤ 9) ∧ n < 7 → ∀ g', (∀ q, q ≠ 3 → q ≠ 8 → q ≠ 9 → g' q = g q) → (∀ b, scB a b n v1 v2 → RSc g' b) → K (n : Int) g') (hK0 : ¬ ((0 ≤ v1 ∧ v1 ≤ 9) ∧ (1 ≤ v2 ∧ v2 ≤ 9) ∧ n < 7) → K (-1) g) : cI (d + 1) m_X7_tellScene [(vR 3), (vI v1), (vI v2)] dd sh g K := by
  have em := hS.m
  refine mkI (ls := [some (vR 3), some (vI v1), some (vI v2), none]) rfl rfl rfl rfl rfl (r_X7_tellScene_0 ?_)
  rw [em.1, hn, show ((n : Int)).toNat = n from rfl]
  by_cases c : (0 ≤ v1 ∧ v1 ≤ 9) ∧ (1 ≤ v2 ∧ v2 ≤ 9) ∧ n < 7
  · have hk := hK c (up (up (up g 8 n v1) 9 n v2) 3 7 ((n : Int) + 1)) (fun q h3 h8 h9 => by rw [up_off h3, up_off h9, up_off h8]) (fun b ⟨b0, b1, b2, b3, b4, b5⟩ => RS.scene (n := n) (x := v1) (y := v2) hS (by omega) (by omega) (by omega) (by omega) (by intro k hk; simp [up, hk]) (by simp [up]) (by intro k hk; simp [up, hk]) (by simp [up]) (by intro k hk; simp [up, hk]) (by simp [up]) b0 b1 b2 b3 b4 b5)
    repeat' (first
      | (refine imp_mk ?_; intro hh; first | contradiction | (exfalso; omega) | skip)
      | (exact hk)
      | refine And.intro ?_ ?_
      | omega)
  · repeat' (first
      | (refine imp_mk ?_; intro hh; first | contradiction | (exfalso; omega) | skip)
      | (exact hK0 (by omega))
      | refine And.intro ?_ ?_
      | omega)
theorem s_X12_scene {d : Nat} {dd : List (Nat × Nat)} {sh : Nat → Nat → Nat} {g : Nat → Nat → Int} {K : Int → (Nat → Nat → Int) → Prop} {v1 v2 : Int} {n : Nat} (hA : AB (g 135)) (hn : g 135 1 = n) (h1 : i32 v1) (h2 : i32 v2) (hK : (0 ≤ v1 ∧ v1 ≤ 9) ∧ (1 ≤ v2 ∧ v2 ≤ 9) ∧ n < 7 → ∀ g', (∀ q, q ≠ 135 → g' q = g q) → scB (g 135) (g' 135) n v1 v2 → K (n : Int) g') (hK0 : ¬ ((0 ≤ v1 ∧ v1 ≤ 9) ∧ (1 ≤ v2 ∧ v2 ≤ 9) ∧ n < 7) → K (-1) g) : cI (d + 2) m_X12_scene [(vR 134), (vI v1), (vI v2)] dd sh g K := by
  have em := hA.m
  refine mkI (ls := [some (vR 134), some (vI v1), some (vI v2), none]) rfl rfl rfl rfl rfl (r_X12_scene_0 ?_)
  repeat' (first
    | (refine imp_mk ?_; intro hh; first | contradiction | (exfalso; omega) | skip)
    | (refine s_X12_isIn (by omega) (by omega) (by omega) (fun _ _ => ?_) (fun _ => ?_))
    | (exact hK0 (by omega))
    | ((rw [hn]; refine s_lay0 (by omega) ?_))
    | (refine s_lay1 (by omega) ?_)
    | (refine s_lay2 (by omega) ?_)
    | (refine s_lay3 (by omega) ?_)
    | ((refine hK (by omega) _ ?_ ⟨?_, ?_, ?_, ?_, ?_, ?_⟩))
    | refine And.intro ?_ ?_
    | omega)
  · intro q hq; repeat rw [up_off hq]
  · intro k hk1 hk2; simp [up, hn] <;> omega
  all_goals (simp [up, hn] <;> omega)
theorem sim_scene : S_scene := by
  intro dd sh g hI a1 a2 h1 h2
  have em := hI.s.m
  obtain ⟨n, hn⟩ := Int.eq_ofNat_of_zero_le em.2.1
  unfold SimI
  refine mkI (ls := [some (vR 1), some (vI a1), some (vI a2)]) rfl rfl rfl rfl rfl (r_X11_scene_0 ?_)
  refine s_X7_tellScene hI.s hn h1 h2 (fun c g1 f1 f2 => ?_) (fun c => ?_)
  · refine s_X12_scene (n := n) (by rw [f1 135 (by omega) (by omega) (by omega)]; exact hI.s.ab) (by rw [f1 135 (by omega) (by omega) (by omega)]; exact hn) h1 h2 (fun _ g3 f3 f4 => ?_) (fun h => absurd c h)
    refine ⟨rfl, ⟨by omega, by omega⟩, ?_⟩
    rw [f1 135 (by omega) (by omega) (by omega)] at f4
    have hs := f2 _ f4
    obtain ⟨b0, b1, -⟩ := f4
    refine hI.step (g1 := g1) ?_ ⟨?_, ?_⟩ hs ?_ ?_ ?_
    · intro q hq; exact f1 q (by omega) (by omega) (by omega)
    · intro q hq; exact f3 q (by omega)
    · intro k hk; rw [f3 134 (by omega)]
    · unfold RNc
      rw [f1 12 (by omega) (by omega) (by omega), f1 13 (by omega) (by omega) (by omega), f1 14 (by omega) (by omega) (by omega), f1 16 (by omega) (by omega) (by omega), f1 17 (by omega) (by omega) (by omega), f1 18 (by omega) (by omega) (by omega), f1 19 (by omega) (by omega) (by omega)]
      exact hI.nn.sc (fun k hk => b0 k (by omega) (by omega)) (by rw [b1, hn]) (fun p hp => b0 _ (by omega) (by omega))
    · exact RHc.fr hI.h (fun q hq => f1 q (by omega) (by omega) (by omega)) (fun k hk => b0 k (by omega) (by omega)) (by rw [b0 0 (by omega) (by omega)]; exact Int.le_refl _) (by omega)
    · exact b0 2 (by omega) (by omega)
  · refine s_X12_scene hI.s.ab hn h1 h2 (fun h => absurd h c) (fun _ => ?_)
    exact ⟨rfl, ⟨by decide, by decide⟩, hI⟩
set_option maxRecDepth 4000 in
theorem s_X7_tellSuspect {d : Nat} {dd : List (Nat × Nat)} {sh : Nat → Nat → Nat} {g : Nat → Nat → Int} {K : Int → (Nat → Nat → Int) → Prop} {v1 v2 v3 : Int} {a : Nat → Int} {n : Nat} (hS : RSc g a) (hn : a 0 = n) (hz : v1 = 0 ∨ v1 = 1) (h2 : i32 v2) (h3 : i32 v3) (hK : (0 ≤ v2 ∧ v2 ≤ 9) ∧ free a v3 ∧ n < 6 → ∀ g', (∀ q, q ≠ 3 → q ≠ 4 → q ≠ 5 → q ≠ 6 → g' q = g q) → (∀ b, susB a b n v1 v2 v3 → RSc g' b) → K (n : Int) g') (hK0 : ¬ ((0 ≤ v2 ∧ v2 ≤ 9) ∧ free a v3 ∧ n < 6) → K (-1) g) : cI (d + 2) m_X7_tellSuspect [(vR 3), (vI v1), (vI v2), (vI v3)] dd sh g K := by
  have em := hS.n
  have hb := hS.bits
  refine mkI (ls := [some (vR 3), some (vI v1), some (vI v2), some (vI v3), none]) rfl rfl rfl rfl rfl (r_X7_tellSuspect_0 ?_)
  by_cases c : (0 ≤ v2 ∧ v2 ≤ 9) ∧ free a v3 ∧ n < 6
  · have hf := c.2.1
    have hfb : 0 ≤ v3 ∧ v3 ≤ 39 := ⟨hf.1, by have := hf.2.1; omega⟩
    rcases hz with rfl | rfl
    · have hk := hK c (up (up (up (up g 4 n v2) 5 n v3) 6 n v3) 3 0 ((n : Int) + 1)) (fun q h3 h8 h9 h10 => by rw [up_off h3, up_off h10, up_off h9, up_off h8]) (fun b ⟨b0, b1, b2, b3, b4, b5, b6, b7, b8⟩ => RS.sus (n := n) (x := v2) (y := v3) (z := 0) hS (by omega) (by omega) (by omega) (by omega) (Or.inl rfl) (by intro k hk hk2; simp [up, hk]) (by simp [up]) ⟨fun _ => by simp [up], fun h => absurd h (by decide)⟩ (by intro k hk; simp [up, hk]) (by simp [up]) (by intro k hk; simp [up, hk]) (by simp [up]) (by intro k hk; simp [up, hk]) (by simp [up]) b0 b1 b2 b3 b4 b5 b6 b7)
      repeat' (first
        | (refine imp_mk ?_; intro hh; first | contradiction | (exfalso; omega) | skip)
        | (refine s_X7_isFree hS h3 (fun _ => ?_) (fun h => absurd hf h))
        | ((rw [em.1, hn]; exact hk))
        | refine And.intro ?_ ?_
        | omega)
    · have hk := hK c (up (up (up (up (up g 3 1 (ior (g 3 1) ((1 : Int) * 2 ^ n))) 4 n v2) 5 n v3) 6 n v3) 3 0 ((n : Int) + 1)) (fun q h3 h8 h9 h10 => by rw [up_off h3, up_off h10, up_off h9, up_off h8, up_off h3]) (fun b ⟨b0, b1, b2, b3, b4, b5, b6, b7, b8⟩ => RS.sus (n := n) (x := v2) (y := v3) (z := 1) hS (by omega) (by omega) (by omega) (by omega) (Or.inr rfl) (by intro k hk hk2; simp [up, hk, hk2]) (by simp [up]) ⟨fun h => absurd h (by decide), fun _ => by simp [up]⟩ (by intro k hk; simp [up, hk]) (by simp [up]) (by intro k hk; simp [up, hk]) (by simp [up]) (by intro k hk; simp [up, hk]) (by simp [up]) b0 b1 b2 b3 b4 b5 b6 b7)
      repeat' (first
        | (refine imp_mk ?_; intro hh; first | contradiction | (exfalso; omega) | skip)
        | (refine s_X7_isFree hS h3 (fun _ => ?_) (fun h => absurd hf h))
        | ((rw [em.1, hn]; exact hk))
        | refine And.intro ?_ ?_
        | omega)
  · have hk : ∀ r, r = -1 → K r g := fun r hr => by rw [hr]; exact hK0 c
    repeat' (first
      | (refine imp_mk ?_; intro hh; first | contradiction | (exfalso; omega) | skip)
      | (refine s_X7_isFree hS h3 (fun hf => absurd ⟨⟨by omega, by omega⟩, hf, by omega⟩ c) (fun _ => ?_))
      | (exact hk _ rfl)
      | refine And.intro ?_ ?_
      | omega)
set_option maxRecDepth 4000 in
theorem s_X12_suspect {d : Nat} {dd : List (Nat × Nat)} {sh : Nat → Nat → Nat} {g : Nat → Nat → Int} {K : Int → (Nat → Nat → Int) → Prop} {v1 v2 v3 : Int} {n : Nat} (hA : AB (g 135)) (hn : g 135 0 = n) (hz : v1 = 0 ∨ v1 = 1) (h2 : i32 v2) (h3 : i32 v3) (hK : (0 ≤ v2 ∧ v2 ≤ 9) ∧ free (g 135) v3 ∧ n < 6 → ∀ g', (∀ q, q ≠ 135 → g' q = g q) → susB (g 135) (g' 135) n v1 v2 v3 → K (n : Int) g') (hK0 : ¬ ((0 ≤ v2 ∧ v2 ≤ 9) ∧ free (g 135) v3 ∧ n < 6) → K (-1) g) : cI (d + 3) m_X12_suspect [(vR 134), (vI v1), (vI v2), (vI v3)] dd sh g K := by
  have em := hA.n
  refine mkI (ls := [some (vR 134), some (vI v1), some (vI v2), some (vI v3), none]) rfl rfl rfl rfl rfl (r_X12_suspect_0 ?_)
  rcases hz with rfl | rfl
  · repeat' (first
      | (refine imp_mk ?_; intro hh; first | contradiction | (exfalso; omega) | skip)
      | (refine s_X12_isIn (by omega) (by omega) (by omega) (fun _ _ => ?_) (fun _ => ?_))
      | (refine s_X12_isFree hA h3 (fun _ => ?_) (fun _ => ?_))
      | (exact hK0 (fun h => absurd h.1 (by omega)))
      | (exact hK0 (fun h => absurd h.2.2 (by omega)))
      | ((refine hK0 (fun h => absurd h.2.1 ?_); assumption))
      | ((rw [hn]; refine s_put0 (by omega) ?_))
      | (refine s_put1 (by omega) ?_)
      | (refine s_put2 (by omega) ?_)
      | (refine s_put3 (by omega) ?_)
      | (refine s_put4 (by omega) ?_)
      | (refine s_put5 (by omega) ?_)
      | (refine s_put6 (by omega) ?_)
      | ((refine hK ⟨⟨by omega, by omega⟩, by assumption, by omega⟩ _ ?_ ⟨?_, ?_, ?_, ?_, ?_, ?_, ?_, ?_, ?_⟩))
      | refine And.intro ?_ ?_
      | omega)
    · intro q hq; repeat rw [up_off hq]
    · intro k hk1 hk2; simp [up, hn] <;> omega
    all_goals (simp [up, hn] <;> omega)
  · repeat' (first
      | (refine imp_mk ?_; intro hh; first | contradiction | (exfalso; omega) | skip)
      | (refine s_X12_isIn (by omega) (by omega) (by omega) (fun _ _ => ?_) (fun _ => ?_))
      | (refine s_X12_isFree hA h3 (fun _ => ?_) (fun _ => ?_))
      | (exact hK0 (fun h => absurd h.1 (by omega)))
      | (exact hK0 (fun h => absurd h.2.2 (by omega)))
      | ((refine hK0 (fun h => absurd h.2.1 ?_); assumption))
      | ((rw [hn]; refine s_put0 (by omega) ?_))
      | (refine s_put1 (by omega) ?_)
      | (refine s_put2 (by omega) ?_)
      | (refine s_put3 (by omega) ?_)
      | (refine s_put4 (by omega) ?_)
      | (refine s_put5 (by omega) ?_)
      | (refine s_put6 (by omega) ?_)
      | ((refine hK ⟨⟨by omega, by omega⟩, by assumption, by omega⟩ _ ?_ ⟨?_, ?_, ?_, ?_, ?_, ?_, ?_, ?_, ?_⟩))
      | refine And.intro ?_ ?_
      | omega)
    · intro q hq; repeat rw [up_off hq]
    · intro k hk1 hk2; simp [up, hn] <;> omega
    all_goals (simp [up, hn] <;> omega)
theorem sim_suspect : S_suspect := by
  intro dd sh g hI a1 a2 a3 hz h2 h3
  have em := hI.s.n
  obtain ⟨n, hn⟩ := Int.eq_ofNat_of_zero_le em.2.1
  unfold SimI
  refine mkI (ls := [some (vR 1), some (vI a1), some (vI a2), some (vI a3)]) rfl rfl rfl rfl rfl (r_X11_suspect_0 ?_)
  refine s_X7_tellSuspect hI.s hn hz h2 h3 (fun c g1 f1 f2 => ?_) (fun c => ?_)
  · have e135 := f1 135 (by omega) (by omega) (by omega) (by omega)
    refine s_X12_suspect (n := n) (by rw [e135]; exact hI.s.ab) (by rw [e135]; exact hn) hz h2 h3 (fun _ g3 f3 f4 => ?_) (fun h => absurd (by rw [e135]; exact c) h)
    refine ⟨rfl, ⟨by omega, by omega⟩, ?_⟩
    rw [e135] at f4
    have hs := f2 _ f4
    obtain ⟨b0, b1, -, -, -, -, -, -, b8⟩ := f4
    refine hI.step (g1 := g1) ?_ ⟨?_, ?_⟩ hs ?_ ?_ ?_
    · intro q hq; exact f1 q (by omega) (by omega) (by omega) (by omega)
    · intro q hq; exact f3 q (by omega)
    · intro k hk; rw [f3 134 (by omega)]
    · unfold RNc
      rw [f1 12 (by omega) (by omega) (by omega) (by omega), f1 13 (by omega) (by omega) (by omega) (by omega), f1 14 (by omega) (by omega) (by omega) (by omega), f1 16 (by omega) (by omega) (by omega) (by omega), f1 17 (by omega) (by omega) (by omega) (by omega), f1 18 (by omega) (by omega) (by omega) (by omega), f1 19 (by omega) (by omega) (by omega) (by omega)]
      exact hI.nn.sus (fun k hk => b0 k (by omega) (by omega)) (by omega) (by rw [b1, hn]) (fun p hp hq => b0 _ (by omega) (by omega)) (by rw [hn]; exact b8)
    · exact RHc.fr hI.h (fun q hq => f1 q (by omega) (by omega) (by omega) (by omega)) (fun k hk => b0 k (by omega) (by omega)) (by omega) (by rw [b0 1 (by omega) (by omega)]; exact Int.le_refl _)
    · exact b0 2 (by omega) (by omega)
  · refine s_X12_suspect hI.s.ab hn hz h2 h3 (fun h => absurd h c) (fun _ => ?_)
    exact ⟨rfl, ⟨by decide, by decide⟩, hI⟩
theorem iand_255 (x : Int) : 0 ≤ iand x 255 ∧ iand x 255 ≤ 255 := by
  unfold iand
  rw [← Int32.toInt_toBitVec, Int32.toBitVec_and, Int32.toBitVec_ofInt, Int32.toBitVec_ofInt]
  have e : (BitVec.ofInt 32 x &&& BitVec.ofInt 32 255).toNat ≤ 255 := by
    rw [BitVec.toNat_and]; exact Nat.le_trans Nat.and_le_right (by decide)
  rw [BitVec.toInt_eq_toNat_of_lt (by omega)]
  omega
/-- four bytes of v behind n -/
def fourB (r r' : Nat → Int) (n : Nat) (v : Int) : Prop := (∀ i, i < n ∨ n + 4 ≤ i → r' i = r i) ∧ ∀ j, j < 4 → r' (n + j) = iand (v / 2 ^ (24 - 8 * j)) 255
set_option maxRecDepth 4000 in
theorem af_step {d : Nat} {dd : List (Nat × Nat)} {sh : Nat → Nat → Nat} {g : Nat → Nat → Int} {K : (Nat → Nat → Int) → Prop} {v1 v2 : Int} {n : Nat} (hn : g 102 1 = n) (hn2 : n < 300) (h1 : i32 v1) (h2 : 0 ≤ v2 ∧ v2 ≤ 24) (h : rV d m_X8_addFour 3 [some (vR 102), some (vI v1), some (vI (v2 + (-8)))] [] dd sh (up (up g 103 n (iand (v1 / 2 ^ v2.toNat) 255)) 102 1 ((n : Int) + 1)) K) : rV d m_X8_addFour 3 [some (vR 102), some (vI v1), some (vI v2)] [] dd sh g K := by
  refine r_X8_addFour_3 ?_
  rw [hn, show ((n : Int)).toNat = n from rfl]
  repeat' (first
    | (refine imp_mk ?_; intro hh; first | contradiction | (exfalso; omega) | skip)
    | (exact h)
    | refine And.intro ?_ ?_
    | omega)
theorem s_X8_addFour {d : Nat} {dd : List (Nat × Nat)} {sh : Nat → Nat → Nat} {g : Nat → Nat → Int} {K : (Nat → Nat → Int) → Prop} {v1 : Int} {n : Nat} (hn : g 102 1 = n) (hn2 : n ≤ 296) (h1 : i32 v1) (hK : ∀ g', (∀ q, q ≠ 102 → q ≠ 103 → g' q = g q) → (∀ k, k ≠ 1 → g' 102 k = g 102 k) → g' 102 1 = ((n + 4 : Nat) : Int) → fourB (g 103) (g' 103) n v1 → K g') : cV (d + 1) m_X8_addFour [(vR 102), (vI v1)] dd sh g K := by
  refine mkV (ls := [some (vR 102), some (vI v1), none]) rfl rfl rfl rfl rfl (r_X8_addFour_0 ?_)
  refine af_step hn (by omega) h1 (by omega) ?_
  refine af_step (n := n + 1) (by simp [up]) (by omega) h1 (by omega) ?_
  refine af_step (n := n + 2) (by simp [up] <;> omega) (by omega) h1 (by omega) ?_
  refine af_step (n := n + 3) (by simp [up] <;> omega) (by omega) h1 (by omega) ?_
  refine r_X8_addFour_3 ⟨⟨by decide, by decide⟩, fun _ => ?_, fun h => absurd h (by decide)⟩
  refine hK _ ?_ ?_ ?_ ⟨?_, ?_⟩
  · intro q h2 h3; repeat (first | rw [up_off h2] | rw [up_off h3])
  · intro k hk; simp [up, hk]
  · simp [up] <;> omega
  · intro i hi
    simp [up]
    repeat' split
    all_goals first | omega | rfl
  · intro j hj
    have : j = 0 ∨ j = 1 ∨ j = 2 ∨ j = 3 := by omega
    rcases this with rfl | rfl | rfl | rfl
    all_goals (simp [up] <;> rfl)
set_option maxRecDepth 4000 in
theorem fr_step {d : Nat} {dd : List (Nat × Nat)} {sh : Nat → Nat → Nat} {g : Nat → Nat → Int} {K : (Nat → Nat → Int) → Prop} {v1 v2 : Int} {n : Nat} (hn : g 134 4 = n) (hn2 : n < 300) (h1 : i32 v1) (h2 : 0 ≤ v2 ∧ v2 ≤ 24) (h : rV d m_X12_four 3 [some (vR 134), some (vI v1), some (vI (v2 + (-8)))] [] dd sh (up (up g 138 n (iand (v1 / 2 ^ v2.toNat) 255)) 134 4 ((n : Int) + 1)) K) : rV d m_X12_four 3 [some (vR 134), some (vI v1), some (vI v2)] [] dd sh g K := by
  refine r_X12_four_3 ?_
  rw [hn, show ((n : Int)).toNat = n from rfl]
  repeat' (first
    | (refine imp_mk ?_; intro hh; first | contradiction | (exfalso; omega) | skip)
    | (exact h)
    | refine And.intro ?_ ?_
    | omega)
theorem s_X12_four {d : Nat} {dd : List (Nat × Nat)} {sh : Nat → Nat → Nat} {g : Nat → Nat → Int} {K : (Nat → Nat → Int) → Prop} {v1 : Int} {n : Nat} (hn : g 134 4 = n) (hn2 : n ≤ 296) (h1 : i32 v1) (hK : ∀ g', (∀ q, q ≠ 134 → q ≠ 138 → g' q = g q) → (∀ k, k ≠ 4 → g' 134 k = g 134 k) → g' 134 4 = ((n + 4 : Nat) : Int) → fourB (g 138) (g' 138) n v1 → K g') : cV (d + 1) m_X12_four [(vR 134), (vI v1)] dd sh g K := by
  refine mkV (ls := [some (vR 134), some (vI v1), none]) rfl rfl rfl rfl rfl (r_X12_four_0 ?_)
  refine fr_step hn (by omega) h1 (by omega) ?_
  refine fr_step (n := n + 1) (by simp [up]) (by omega) h1 (by omega) ?_
  refine fr_step (n := n + 2) (by simp [up] <;> omega) (by omega) h1 (by omega) ?_
  refine fr_step (n := n + 3) (by simp [up] <;> omega) (by omega) h1 (by omega) ?_
  refine r_X12_four_3 ⟨⟨by decide, by decide⟩, fun _ => ?_, fun h => absurd h (by decide)⟩
  refine hK _ ?_ ?_ ?_ ⟨?_, ?_⟩
  · intro q h2 h3; repeat (first | rw [up_off h2] | rw [up_off h3])
  · intro k hk; simp [up, hk]
  · simp [up] <;> omega
  · intro i hi
    simp [up]
    repeat' split
    all_goals first | omega | rfl
  · intro j hj
    have : j = 0 ∨ j = 1 ∨ j = 2 ∨ j = 3 := by omega
    rcases this with rfl | rfl | rfl | rfl
    all_goals (simp [up] <;> rfl)
/-- two rows that go on with the same bytes stay alike -/
theorem fourB.al {r r' q q' : Nat → Int} {n : Nat} {v : Int} (h : fourB r r' n v) (h' : fourB q q' n v) (e : ∀ i, i < 300 → r i = q i ∧ 0 ≤ q i ∧ q i ≤ 255) : ∀ i, i < 300 → r' i = q' i ∧ 0 ≤ q' i ∧ q' i ≤ 255 := by
  intro i hi
  by_cases hn : i < n ∨ n + 4 ≤ i
  · rw [h.1 i hn, h'.1 i hn]; exact e i hi
  · have := h.2 (i - n) (by omega)
    have h2 := h'.2 (i - n) (by omega)
    rw [show n + (i - n) = i by omega] at this h2
    rw [this, h2]
    exact ⟨rfl, iand_255 _⟩
set_option maxRecDepth 4000 in
theorem s_X8_hasRoom {d : Nat} {dd : List (Nat × Nat)} {sh : Nat → Nat → Nat} {g : Nat → Nat → Int} {K : Int → (Nat → Nat → Int) → Prop} {n : Nat} (hn : g 102 1 = n) (hn2 : n ≤ 300) (hK : n ≤ 280 → K 1 g) (hK0 : 280 < n → K 0 g) : cI (d + 1) m_X8_hasRoom [vR 102, vI 20] dd sh g K := by
  refine mkI (ls := [some (vR 102), some (vI 20)]) rfl rfl rfl rfl rfl (r_X8_hasRoom_0 ?_)
  repeat' (first
    | (refine imp_mk ?_; intro hh; first | contradiction | (exfalso; omega) | skip)
    | (exact hK (by omega))
    | (exact hK0 (by omega))
    | refine And.intro ?_ ?_
    | omega)
theorem sim_feed : S_feed := by
  intro dd sh g hI a1 a2 a3 a4 a5 h1 h2 h3 h4 h5
  obtain ⟨x1, x2, x3, x4, x5⟩ := hI.x
  obtain ⟨n, hn⟩ := Int.eq_ofNat_of_zero_le x1.2.1
  have hc : g 102 1 = n := by omega
  unfold SimI
  refine mkI (ls := [some (vR 1), some (vI a1), some (vI a2), some (vI a3), some (vI a4), some (vI a5)]) rfl rfl rfl rfl rfl (r_X11_feed_0 ?_)
  refine s_X8_hasRoom hc (by omega) (fun c => ?_) (fun c => ?_)
  · refine ⟨⟨by decide, by decide⟩, fun _ => ?_, fun h => absurd h (by decide)⟩
    refine s_X8_addFour (n := n) hc (by omega) h1 fun g1 p1 o1 s1 t1 => ?_
    refine s_X8_addFour (n := n + 4) s1 (by omega) h2 fun g2 p2 o2 s2 t2 => ?_
    refine s_X8_addFour (n := n + 8) s2 (by omega) h3 fun g3 p3 o3 s3 t3 => ?_
    refine s_X8_addFour (n := n + 12) s3 (by omega) h4 fun g4 p4 o4 s4 t4 => ?_
    refine s_X8_addFour (n := n + 16) s4 (by omega) h5 fun g5 p5 o5 s5 t5 => ?_
    have p : ∀ q, q ≠ 102 → q ≠ 103 → g5 q = g q := fun q hq hq2 => by rw [p5 q hq hq2, p4 q hq hq2, p3 q hq hq2, p2 q hq hq2, p1 q hq hq2]
    rw [s5]
    refine mkI (ls := [some (vR 134), some (vI a1), some (vI a2), some (vI a3), some (vI a4), some (vI a5)]) rfl rfl rfl rfl rfl (r_X12_feed_0 ?_)
    rw [p 134 (by omega) (by omega), hn]
    refine ⟨⟨by omega, by omega⟩, fun _ => ?_, fun h => absurd h (by omega)⟩
    refine s_X12_four (n := n) (by rw [p 134 (by omega) (by omega), hn]) (by omega) h1 fun k1 q1 u1 w1 z1 => ?_
    refine s_X12_four (n := n + 4) w1 (by omega) h2 fun k2 q2 u2 w2 z2 => ?_
    refine s_X12_four (n := n + 8) w2 (by omega) h3 fun k3 q3 u3 w3 z3 => ?_
    refine s_X12_four (n := n + 12) w3 (by omega) h4 fun k4 q4 u4 w4 z4 => ?_
    refine s_X12_four (n := n + 16) w4 (by omega) h5 fun k5 q5 u5 w5 z5 => ?_
    have q : ∀ q, q ≠ 134 → q ≠ 138 → k5 q = g5 q := fun q hq hq2 => by rw [q5 q hq hq2, q4 q hq hq2, q3 q hq hq2, q2 q hq hq2, q1 q hq hq2]
    have u : ∀ k, k ≠ 4 → k5 134 k = g 134 k := fun k hk => by rw [u5 k hk, u4 k hk, u3 k hk, u2 k hk, u1 k hk, p 134 (by omega) (by omega)]
    rw [w5]
    refine ⟨rfl, ⟨by omega, by omega⟩, hI.tape (fun q' hq => by rw [q q' (by omega) (by omega), p q' (by omega) (by omega)]) ⟨⟨?_, ?_, ?_⟩, ?_, ?_, ?_, ?_⟩⟩
    · rw [q 102 (by omega) (by omega), s5, w5]
    · rw [w5]; omega
    · rw [w5]; omega
    · rw [q 103 (by omega) (by omega)]
      rw [p 138 (by omega) (by omega)] at z1
      exact t5.al z5 (t4.al z4 (t3.al z3 (t2.al z2 (t1.al z1 x2))))
    · rw [q 108 (by omega) (by omega), p 108 (by omega) (by omega), u 5 (by omega)]; exact x3
    · rw [q 108 (by omega) (by omega), p 108 (by omega) (by omega), u 6 (by omega)]; exact x4
    · rw [u 22 (by omega)]; exact x5
  · refine ⟨⟨by decide, by decide⟩, fun h => absurd rfl h, fun _ => ?_⟩
    refine mkI (ls := [some (vR 134), some (vI a1), some (vI a2), some (vI a3), some (vI a4), some (vI a5)]) rfl rfl rfl rfl rfl (r_X12_feed_0 ?_)
    rw [hn]
    exact ⟨⟨by omega, by omega⟩, fun h => absurd h (by omega), fun _ => ⟨rfl, ⟨by decide, by decide⟩, hI⟩⟩
