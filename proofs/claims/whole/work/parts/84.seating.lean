-- the seating in which most face
/-- v put into the first j, from above -/
def insL (v : Int) : Nat → (Nat → Int) → (Nat → Int)
  | 0, w => upR w 0 v
  | j + 1, w => if v < w j then insL v j (upR w (j + 1) (w j)) else upR w (j + 1) v
/-- the first k in order -/
def srtF (sv : Nat → Int) : Nat → (Nat → Int)
  | 0 => fun _ => 0
  | k + 1 => insL (sv k) k (srtF sv k)
theorem upR_bd {w : Nat → Int} {j : Nat} {v : Int} (hw : ∀ c, 0 ≤ w c ∧ w c ≤ 39) (hv : 0 ≤ v ∧ v ≤ 39) (c : Nat) : 0 ≤ upR w j v c ∧ upR w j v c ≤ 39 := by
  unfold upR
  split
  · exact hv
  · exact hw c
theorem insL_bd {v : Int} (hv : 0 ≤ v ∧ v ≤ 39) : ∀ (j : Nat) (w : Nat → Int), (∀ c, 0 ≤ w c ∧ w c ≤ 39) → ∀ c, 0 ≤ insL v j w c ∧ insL v j w c ≤ 39 := by
  intro j
  induction j with
  | zero => intro w hw c; exact upR_bd hw hv c
  | succ j ih =>
    intro w hw c
    unfold insL
    split
    · exact ih _ (fun c => upR_bd hw (hw j) c) c
    · exact upR_bd hw hv c
theorem srtF_bd {sv : Nat → Int} (h : ∀ k, 0 ≤ sv k ∧ sv k ≤ 39) : ∀ k c, 0 ≤ srtF sv k c ∧ srtF sv k c ≤ 39 := by
  intro k
  induction k with
  | zero => intro c; exact ⟨Int.le_refl _, show (0 : Int) ≤ 39 by decide⟩
  | succ k ih => intro c; exact insL_bd (h k) k _ ih c
theorem s_X10_sortPlaces {d : Nat} {dd : List (Nat × Nat)} {sh : Nat → Nat → Nat} {g : Nat → Nat → Int} {K : (Nat → Nat → Int) → Prop} {n : Nat} {sv : Nat → Int} (hn : n ≤ 5) (hv : ∀ k, 0 ≤ sv k ∧ sv k ≤ 39) (h1 : ∀ k : Nat, k < n → 0 ≤ g 129 k ∧ g 129 k < 6) (h2 : ∀ k : Nat, k < n → g 5 (g 129 k).toNat = sv k) (hK : ∀ g', (∀ q, q ≠ 130 → q ≠ 131 → g' q = g q) → (∀ c : Nat, c < n → g' 131 c = (c : Int)) → (∀ c, c < n → g' 130 c = srtF sv n c) → K g') : cV (d + 1) m_X10_sortPlaces [(vR 128), (vI ((n : Int)))] dd sh g K := by
  refine mkV (ls := [some (vR 128), some (vI ((n : Int))), none, none, none]) rfl rfl rfl rfl rfl (r_X10_sortPlaces_0 ?_)
  refine loop (P := fun k => ∀ g', (∀ q, q ≠ 130 → q ≠ 131 → g' q = g q) → (∀ c : Nat, c < k → g' 131 c = (c : Int)) → (∀ c, c < k → g' 130 c = srtF sv k c) → rV d m_X10_sortPlaces 2 [some (vR 128), some (vI ((n : Int))), some (vI ((k : Int))), none, none] [] dd sh (g') K) (n := n) ?_ ?_ 0 (by omega) g (fun _ _ _ => rfl) (fun c hc => absurd hc (by omega)) (fun c hc => absurd hc (by omega))
  · intro g' f1 f2 f3
    exact r_X10_sortPlaces_2 ⟨⟨by omega, by omega⟩, ⟨by omega, by omega⟩, fun _ => hK g' f1 f2 f3, fun h => absurd h (by omega)⟩
  · intro k hk ih g' f1 f2 f3
    have a1 := h1 k hk
    have a2 := h2 k hk
    refine r_X10_sortPlaces_2 ?_
    rw [show ((k : Int)).toNat = k from rfl, f1 129 (by decide) (by decide), f1 5 (by decide) (by decide), a2]
    refine ⟨⟨by omega, by omega⟩, ⟨by omega, by omega⟩, fun h => absurd h (by omega), fun _ => ⟨by omega, by omega, a1.1, a1.2, ?_⟩⟩
    have key : ∀ (j : Nat) (w : Nat → Int) (g2 : Nat → Nat → Int), j ≤ k → (∀ c, 0 ≤ w c ∧ w c ≤ 39) → (∀ q, q ≠ 130 → q ≠ 131 → g2 q = g q) → (∀ c : Nat, c < k + 1 → g2 131 c = (c : Int)) → (∀ c, c ≤ k → c ≠ j → g2 130 c = w c) → (∀ c, insL (sv k) j w c = srtF sv (k + 1) c) → rV d m_X10_sortPlaces 32 [some (vR 128), some (vI ((n : Int))), some (vI ((k : Int))), some (vI (sv k)), some (vI ((j : Int)))] [] dd sh g2 K := by
      intro j
      induction j with
      | zero =>
        intro w g2 hj hw t1 t2 t3 t4
        refine r_X10_sortPlaces_32 ⟨⟨by omega, by omega⟩, fun _ => ⟨by omega, by omega, ?_⟩, fun h => absurd h (by omega)⟩
        refine ih _ (fun q q1 q2 => by rw [up_off q1]; exact t1 q q1 q2) (fun c hc => by rw [up_off (by decide)]; exact t2 c hc) (fun c hc => ?_)
        rw [← t4 c, up_at]
        show (if c = 0 then sv k else g2 130 c) = upR w 0 (sv k) c
        unfold upR
        by_cases e : c = 0
        · rw [if_pos e, if_pos e]
        · rw [if_neg e, if_neg e]; exact t3 c (by omega) e
      | succ j ihj =>
        intro w g2 hj hw t1 t2 t3 t4
        have hvk := hv k
        have hwj := hw j
        have ej : g2 130 j = w j := t3 j (by omega) (by omega)
        refine r_X10_sortPlaces_32 ?_
        rw [show (((j + 1 : Nat) : Int) - 1).toNat = j by omega, ej, show (((j + 1 : Nat) : Int)).toNat = j + 1 from rfl]
        refine ⟨⟨by omega, by omega⟩, fun h => absurd h (by omega), fun _ => ⟨by omega, by omega, ⟨by omega, by omega⟩, ⟨by omega, by omega⟩, fun h => ⟨by omega, by omega, ?_⟩, fun h => ⟨by omega, by omega, ?_⟩⟩⟩
        · refine ih _ (fun q q1 q2 => by rw [up_off q1]; exact t1 q q1 q2) (fun c hc => by rw [up_off (by decide)]; exact t2 c hc) (fun c hc => ?_)
          have e9 : insL (sv k) (j + 1) w = upR w (j + 1) (sv k) := if_neg (by omega)
          rw [← t4 c, up_at, e9]
          unfold upR
          by_cases e : c = j + 1
          · rw [if_pos e, if_pos e]
          · rw [if_neg e, if_neg e]; exact t3 c (by omega) e
        · have e9 : insL (sv k) (j + 1) w = insL (sv k) j (upR w (j + 1) (w j)) := if_pos h
          rw [e9] at t4
          rw [show ((j + 1 : Nat) : Int) + (-1) = (j : Int) by omega]
          refine ihj _ _ (by omega) (fun c => upR_bd hw hwj c) (fun q q1 q2 => by rw [up_off q1]; exact t1 q q1 q2) (fun c hc => by rw [up_off (by decide)]; exact t2 c hc) (fun c hc hcj => ?_) t4
          rw [up_at]
          unfold upR
          by_cases e : c = j + 1
          · rw [if_pos e, if_pos e]
          · rw [if_neg e, if_neg e]; exact t3 c hc e
    refine key k (srtF sv k) _ (Nat.le_refl _) (srtF_bd hv k) (fun q q1 q2 => by rw [up_off q2]; exact f1 q q1 q2) (fun c hc => ?_) (fun c hc hck => by rw [up_off (by decide)]; exact f3 c (by omega)) (fun c => rfl)
    rw [up_at]
    by_cases e : c = k
    · rw [if_pos e, e]
    · rw [if_neg e]; exact f2 c (by omega)
theorem s_X12_sortSeats {d : Nat} {dd : List (Nat × Nat)} {sh : Nat → Nat → Nat} {g : Nat → Nat → Int} {K : (Nat → Nat → Int) → Prop} {n : Nat} {sv : Nat → Int} (hn : n ≤ 5) (hv : ∀ k, 0 ≤ sv k ∧ sv k ≤ 39) (h1 : ∀ k : Nat, k < n → 0 ≤ g 143 k ∧ g 143 k < 6) (h2 : ∀ k : Nat, k < n → g 135 (18 + 7 * (g 143 k).toNat) = sv k) (hK : ∀ g', (∀ q, q ≠ 148 → g' q = g q) → (∀ c, c < n → g' 148 c = srtF sv n c) → K g') : cV (d + 2) m_X12_sortSeats [(vR 134), (vI ((n : Int)))] dd sh g K := by
  refine mkV (ls := [some (vR 134), some (vI ((n : Int))), none, none]) rfl rfl rfl rfl rfl (r_X12_sortSeats_0 ?_)
  refine loop (P := fun k => ∀ g', (∀ q, q ≠ 148 → g' q = g q) → (∀ c, c < k → g' 148 c = srtF sv k c) → rV (d + 1) m_X12_sortSeats 2 [some (vR 134), some (vI ((n : Int))), some (vI ((k : Int))), none] [] dd sh (g') K) (n := n) ?_ ?_ 0 (by omega) g (fun _ _ => rfl) (fun c hc => absurd hc (by omega))
  · intro g' f1 f3
    exact r_X12_sortSeats_2 ⟨⟨by omega, by omega⟩, ⟨by omega, by omega⟩, fun _ => hK g' f1 f3, fun h => absurd h (by omega)⟩
  · intro k hk ih g' f1 f3
    have a1 := h1 k hk
    have a2 := h2 k hk
    obtain ⟨p, hp⟩ := Int.eq_ofNat_of_zero_le a1.1
    rw [hp, show ((p : Int)).toNat = p from rfl] at a2
    refine r_X12_sortSeats_2 ⟨⟨by omega, by omega⟩, ⟨by omega, by omega⟩, fun h => absurd h (by omega), fun _ => ?_⟩
    have key : ∀ (j : Nat) (w : Nat → Int) (g2 : Nat → Nat → Int), j ≤ k → (∀ c, 0 ≤ w c ∧ w c ≤ 39) → (∀ q, q ≠ 148 → g2 q = g q) → (∀ c, c ≤ k → c ≠ j → g2 148 c = w c) → (∀ c, insL (sv k) j w c = srtF sv (k + 1) c) → rV (d + 1) m_X12_sortSeats 9 [some (vR 134), some (vI ((n : Int))), some (vI ((k : Int))), some (vI ((j : Int)))] [] dd sh g2 K := by
      intro j
      induction j with
      | zero =>
        intro w g2 hj hw t1 t3 t4
        refine r_X12_sortSeats_9 ?_
        rw [show ((k : Int)).toNat = k from rfl, t1 143 (by decide), hp]
        refine ⟨⟨by omega, by omega⟩, fun _ => ⟨by omega, by omega, s_get2 (by omega) ⟨by omega, by omega, ?_⟩⟩, fun h => absurd h (by omega)⟩
        rw [t1 135 (by decide), a2]
        refine ih _ (fun q q1 => by rw [up_off q1]; exact t1 q q1) (fun c hc => ?_)
        rw [← t4 c, up_at]
        show (if c = 0 then sv k else g2 148 c) = upR w 0 (sv k) c
        unfold upR
        by_cases e : c = 0
        · rw [if_pos e, if_pos e]
        · rw [if_neg e, if_neg e]; exact t3 c (by omega) e
      | succ j ihj =>
        intro w g2 hj hw t1 t3 t4
        have hvk := hv k
        have hwj := hw j
        have ej : g2 148 j = w j := t3 j (by omega) (by omega)
        refine r_X12_sortSeats_9 ?_
        rw [show ((k : Int)).toNat = k from rfl, t1 143 (by decide), hp, show (((j + 1 : Nat) : Int) - 1).toNat = j by omega, ej, show (((j + 1 : Nat) : Int)).toNat = j + 1 from rfl]
        refine ⟨⟨by omega, by omega⟩, fun h => absurd h (by omega), fun _ => ⟨by omega, by omega, by omega, by omega, s_get2 (by omega) ?_⟩⟩
        rw [t1 135 (by decide), a2]
        refine ⟨⟨by omega, by omega⟩, ⟨by omega, by omega⟩, fun h => ?_, fun h => ⟨by omega, by omega, ?_⟩⟩
        · rw [t1 143 (by decide), hp]
          refine s_get2 (by omega) ⟨by omega, by omega, ?_⟩
          rw [t1 135 (by decide), a2]
          refine ih _ (fun q q1 => by rw [up_off q1]; exact t1 q q1) (fun c hc => ?_)
          have e9 : insL (sv k) (j + 1) w = upR w (j + 1) (sv k) := if_neg (by omega)
          rw [← t4 c, up_at, e9]
          unfold upR
          by_cases e : c = j + 1
          · rw [if_pos e, if_pos e]
          · rw [if_neg e, if_neg e]; exact t3 c (by omega) e
        · have e9 : insL (sv k) (j + 1) w = insL (sv k) j (upR w (j + 1) (w j)) := if_pos h
          rw [e9] at t4
          rw [show ((j + 1 : Nat) : Int) + (-1) = (j : Int) by omega]
          rw [ej]
          refine ihj _ _ (by omega) (fun c => upR_bd hw hwj c) (fun q q1 => by rw [up_off q1]; exact t1 q q1) (fun c hc hcj => ?_) t4
          rw [up_at]
          unfold upR
          by_cases e : c = j + 1
          · rw [if_pos e, if_pos e]
          · rw [if_neg e, if_neg e]; exact t3 c hc e
    exact key k (srtF sv k) g' (Nat.le_refl _) (srtF_bd hv k) f1 (fun c hc hck => f3 c (by omega)) (fun c => rfl)
def svF (a : Nat → Int) (s : Int) (n : Nat) (k : Nat) : Int := if k < n then a (18 + 7 * (mf s k).toNat) else 0
def seF (a : Nat → Int) (s : Int) (n : Nat) (l : List Nat) (p : Nat) : Int := if bt s p = 1 then srtF (svF a s n) n (l.getD (sm (bt s) p).toNat 0) else a (18 + 7 * p)
def stS (a : Nat → Int) (s : Int) (n m : Nat) (z : Int × List Nat) (l : List Nat) : Int × List Nat := if z.1 < prN (seF a s n l) m then (prN (seF a s n l) m, l) else z
def orS (a : Nat → Int) (s : Int) (n m : Nat) : Int × List Nat := rows (stS a s n m) n 120 (List.range n) (-1, [])
theorem stS_b {a : Nat → Int} {s : Int} {n m : Nat} {l : List Nat} {z : Int × List Nat} (hm : m ≤ 6) (hz : z.1 ≤ 36) : 0 ≤ (stS a s n m z l).1 ∧ (stS a s n m z l).1 ≤ 36 := by
  have := prN_b (seF a s n l) hm
  unfold stS
  split
  · exact this
  · exact ⟨by omega, hz⟩
theorem orS_b {a : Nat → Int} {s : Int} {n m : Nat} (hm : m ≤ 6) : -1 ≤ (orS a s n m).1 ∧ (orS a s n m).1 ≤ 36 := by
  have key : ∀ (f : Nat) (l : List Nat) (z : Int × List Nat), -1 ≤ z.1 → z.1 ≤ 36 → -1 ≤ (rows (stS a s n m) n f l z).1 ∧ (rows (stS a s n m) n f l z).1 ≤ 36 := by
    intro f
    induction f with
    | zero => intro l z h1 h2; exact ⟨h1, h2⟩
    | succ f ih =>
      intro l z h1 h2
      have := stS_b (a := a) (s := s) (n := n) (l := l) (z := z) hm h2
      unfold rows
      split
      · omega
      · exact ih _ _ (by omega) this.2
  exact key 120 _ _ (by decide) (by decide)
/-- all of the first n members have been seated: the whole row -/
theorem seF_of {a f : Nat → Int} {s : Int} {n m : Nat} {l : List Nat} (hn : sm (bt s) 7 = (n : Int)) (hm : m ≤ 6) (h0 : ∀ p, p < m → bt s p = 0 → f p = a (18 + 7 * p)) (h1 : ∀ k, k < n → f (mf s k).toNat = srtF (svF a s n) n (l.getD k 0)) : ∀ p, p < m → f p = seF a s n l p := by
  intro p hp
  unfold seF
  have hb := bt01 s p
  by_cases e : bt s p = 1
  · rw [if_pos e]
    have h2 := bt_sum_le s (show p + 1 ≤ 7 by omega)
    have h3 : sm (bt s) (p + 1) = sm (bt s) p + bt s p := rfl
    have h4 := cnt_b s p
    have := h1 (sm (bt s) p).toNat (by omega)
    rw [mf_at (by omega) e] at this
    exact this
  · rw [if_neg e]
    exact h0 p hp (by omega)
theorem s_X10_pairsOfBest {d : Nat} {dd : List (Nat × Nat)} {sh : Nat → Nat → Nat} {g : Nat → Nat → Int} {K : Int → (Nat → Nat → Int) → Prop} {n m : Nat} {s : Int} (hI : Inv dd sh g) (hs : 0 ≤ s ∧ s ≤ 2147483647) (hn : sm (bt s) 7 = (n : Int)) (hn5 : n ≤ 5) (hm : g 135 0 = (m : Int)) (hmb : ∀ j : Nat, j < 7 → bt s j = 1 → j < m)
    (hK : ∀ g', ClScr g g' → (∀ p, p < m → g' 133 p = seF (g 135) s n (orS (g 135) s n m).2 p) → K (orS (g 135) s n m).1 g') : cI (d + 4) m_X10_pairsOfBestSeating [(vR 128), (vI s)] dd sh g K := by
  have en := hI.s.n
  refine mkI (ls := [some (vR 128), some (vI s), none, none, none, none, none]) rfl rfl rfl rfl rfl (r_X10_pairsOfBestSeating_0 ?_)
  refine s_X11_membersOf (p := 129) (L := 6) (by decide) rfl ⟨by decide, by decide⟩ hs (by omega) fun g1 f1 f2 => ?_
  rw [hn] at f2 ⊢
  have hmf : ∀ c : Nat, c < n → ∃ i : Nat, mf s c = (i : Int) ∧ i < m ∧ bt s i = 1 := fun c hc => by
    obtain ⟨j, j1, j2, j3, j4⟩ := mf_ex (s := s) (c := c) (by omega)
    exact ⟨j, j4, hmb j j1 j2, j2⟩
  have inj : ∀ c c' : Nat, c < n → c' < n → mf s c = mf s c' → c = c' := fun c c' h h' e => by
    rcases Nat.lt_trichotomy c c' with h2 | h2 | h2
    · have := mf_lt (s := s) h2 (by omega); omega
    · exact h2
    · have := mf_lt (s := s) h2 (by omega); omega
  have e5 : ∀ p, p < m → g 5 p = g 135 (18 + 7 * p) := fun p hp => (hI.s.pp p (by omega) (by omega)).2.2.1
  have b5 : ∀ p, p < m → 0 ≤ g 135 (18 + 7 * p) ∧ g 135 (18 + 7 * p) ≤ 39 := fun p hp => by have := (hI.s.pb p (by omega)).2.1; rw [e5 p hp] at this; exact this
  have hsv : ∀ k, 0 ≤ svF (g 135) s n k ∧ svF (g 135) s n k ≤ 39 := fun k => by
    unfold svF
    split
    · next h =>
      obtain ⟨i, i1, i2, i3⟩ := hmf k h
      rw [i1]; exact b5 i i2
    · exact ⟨Int.le_refl _, by decide⟩
  have hsr := srtF_bd hsv n
  have hse : ∀ l p, p < m → 0 ≤ seF (g 135) s n l p ∧ seF (g 135) s n l p ≤ 39 := fun l p hp => by
    unfold seF
    split
    · exact hsr _
    · exact b5 p hp
  refine s_X10_sortPlaces (sv := svF (g 135) s n) hn5 hsv (fun k hk => ?_) (fun k hk => ?_) fun g2 t1 t2 t3 => ?_
  · obtain ⟨i, i1, i2, i3⟩ := hmf k hk
    rw [f2 k (by omega), i1]; omega
  · obtain ⟨i, i1, i2, i3⟩ := hmf k hk
    rw [f2 k (by omega), f1 5 (by decide), i1]
    unfold svF
    rw [if_pos hk, i1]
    exact e5 i i2
  refine s_X11_copyRow (p0 := 5) (p1 := 132) (n := 6) (m := 6) (by decide) (by decide) (by decide) rfl rfl (by decide) (by decide) ?_
  have w0 : ∀ q, q ≠ 129 → q ≠ 130 → q ≠ 131 → q ≠ 132 → cpy g2 5 132 (min 6 6) q = g q := fun q q1 q2 q3 q4 => by
    funext j; unfold cpy; rw [if_neg (fun h => q4 h.1), t1 q q2 q3, f1 q q1]
  have w1 : ∀ q, q ≠ 132 → cpy g2 5 132 (min 6 6) q = g2 q := fun q q1 => by
    funext j; unfold cpy; rw [if_neg (fun h => q1 h.1)]
  have w2 : ∀ p, p < m → cpy g2 5 132 (min 6 6) 132 p = g 135 (18 + 7 * p) := fun p hp => by
    unfold cpy; rw [if_pos ⟨rfl, by omega⟩, t1 5 (by decide) (by decide), f1 5 (by decide)]; exact e5 p hp
  generalize cpy g2 5 132 (min 6 6) = g3 at w0 w1 w2 ⊢
  have r129 : ∀ c : Nat, c < n → g3 129 c = mf s c := fun c hc => by rw [w1 129 (by decide), t1 129 (by decide) (by decide)]; exact f2 c (by omega)
  have r130 : ∀ c : Nat, c < n → g3 130 c = srtF (svF (g 135) s n) n c := fun c hc => by rw [w1 130 (by decide)]; exact t3 c hc
  have r131 : ∀ c : Nat, c < n → g3 131 c = (c : Int) := fun c hc => by rw [w1 131 (by decide)]; exact t2 c hc
  have hS : ∀ g', (∀ q, q ≠ 131 → q ≠ 132 → q ≠ 133 → g' q = g3 q) → ClScr g g' := fun g' h q hq => by rw [h q (by omega) (by omega) (by omega)]; exact w0 q (by omega) (by omega) (by omega) (by omega)
  have main : ∀ (fu : Nat) (l : List Nat) (z : Int × List Nat) (g' : Nat → Nat → Int), chk n fu l = true → fu ≤ 120 → rows (stS (g 135) s n m) n fu l z = orS (g 135) s n m → (∀ q, q ≠ 131 → q ≠ 132 → q ≠ 133 → g' q = g3 q) → (∀ c, c < n → g' 131 c = lf l c) → (∀ p, p < m → bt s p = 0 → g' 132 p = g 135 (18 + 7 * p)) → z.1 ≤ 36 → (0 ≤ z.1 → ∀ p, p < m → g' 133 p = seF (g 135) s n z.2 p) → -1 ≤ z.1 → rI (d + 3) m_X10_pairsOfBestSeating 36 [some (vR 128), none, some (vI ((n : Int))), some (vI (z.1)), some (vI 1), some (vI (120 - (fu : Int))), none] [] dd sh (g') K := by
    intro fu
    induction fu with
    | zero => intro l z g' hc; exact absurd hc (by unfold chk; decide)
    | succ fu ih =>
      intro l z g' hc hfu hR u1 u2 u3 u4 u5 u6
      obtain ⟨f', ef, hok, hor⟩ := chk_pos hc
      obtain rfl : f' = fu := by omega
      have hlt := okl_lt hok
      have hz := stS_b (a := g 135) (s := s) (n := n) (l := l) (z := z) (m := m) (by omega) u4
      have hrel := nx_rel (f := fun c => (c : Int)) (r := g' 131) (n := n) (l := l) lf_mono hok u2
      have hev := prN_b (seF (g 135) s n l) (n := m) (by omega)
      refine r_X10_pairsOfBestSeating_36 ⟨⟨by omega, by omega⟩, fun h => absurd h (by omega), fun _ => ⟨⟨by decide, by decide⟩, fun h => absurd h (by decide), fun _ => ?_⟩⟩
      have after : ∀ g5 : Nat → Nat → Int, (∀ q, q ≠ 132 → q ≠ 133 → g5 q = g' q) → (∀ p, p < m → bt s p = 0 → g5 132 p = g 135 (18 + 7 * p)) → (∀ p, p < m → g5 133 p = seF (g 135) s n (stS (g 135) s n m z l).2 p) → cI (d + 3) m_X11_nextOrder [(vR 131), (vI (n : Int))] dd sh g5 (fun r4 g6 => rI (d + 3) m_X10_pairsOfBestSeating 36 [some (vR 128), none, some (vI ((n : Int))), some (vI ((stS (g 135) s n m z l).1)), some (vI r4), some (vI (120 - ((f' + 1 : Nat) : Int) + 1)), none] [] dd sh g6 K) := by
        intro g5 x1 x3 x2
        generalize hzz : stS (g 135) s n m z l = zz at hz x2 ⊢
        have e131 := x1 131 (by decide) (by decide)
        refine s_X11_nextOrder (p := 131) (L := 6) (by decide) rfl (by decide) (by omega) (by rw [e131]; exact hrel.1) (fun c hc => by have hb := hlt c hc; rw [e131, u2 c hc]; unfold lf; omega) (fun hend => ?_) (fun j hj g6 y1 y2 => ?_)
        · rw [e131, hrel.2.1] at hend
          rw [rows_end _ hend, hzz] at hR
          have hk1 := hK g5 (hS g5 fun q q1 q2 q3 => by rw [x1 q q2 q3]; exact u1 q q1 q2 q3) (by rw [← hR]; exact x2)
          rw [← hR] at hk1
          exact r_X10_pairsOfBestSeating_36 ⟨⟨by omega, by omega⟩, fun _ => hk1, fun _ => ⟨⟨by decide, by decide⟩, fun _ => hk1, fun h => absurd rfl h⟩⟩
        · rw [e131, hrel.2.1] at hj
          rw [rows_on _ hj, hzz] at hR
          have hc' : chk n f' (nxl n l) = true := hor.resolve_left (by omega)
          have := ih (nxl n l) zz g6 hc' (by omega) hR (fun q q1 q2 q3 => by rw [y1 q q1, x1 q q2 q3]; exact u1 q q1 q2 q3) (fun c hc => by rw [y2 c, e131]; exact hrel.2.2 j hj c hc) (fun p hp hb => by rw [y1 132 (by decide)]; exact x3 p hp hb) hz.2 (fun _ p hp => by rw [y1 133 (by decide)]; exact x2 p hp) (by omega)
          rw [show (120 - ((f' + 1 : Nat) : Int) + 1) = 120 - (f' : Int) by omega]
          exact this
      refine loop (P := fun k => ∀ g5, (∀ q, q ≠ 132 → g5 q = g' q) → (∀ p, p < m → bt s p = 0 → g5 132 p = g 135 (18 + 7 * p)) → (∀ j, j < k → g5 132 (mf s j).toNat = srtF (svF (g 135) s n) n (l.getD j 0)) → rI (d + 3) m_X10_pairsOfBestSeating 51 [some (vR 128), none, some (vI ((n : Int))), some (vI (z.1)), none, some (vI (120 - ((f' + 1 : Nat) : Int))), some (vI ((k : Int)))] [] dd sh g5 K) (n := n) ?_ ?_ 0 (by omega) g' (fun _ _ => rfl) u3 (fun j hj => absurd hj (by omega))
      · intro g5 x1 x2 x3
        have hrow := seF_of (f := g5 132) hn (by omega) x2 x3
        have hpe : prN (g5 132) m = prN (seF (g 135) s n l) m := prN_congr hrow
        refine r_X10_pairsOfBestSeating_51 ⟨⟨by omega, by omega⟩, ⟨by omega, by omega⟩, fun _ => ?_, fun h => absurd h (by omega)⟩
        refine s_X10_pairsOn (n := m) (by decide) rfl (by rw [x1 3 (by decide), u1 3 (by decide) (by decide) (by decide), w0 3 (by decide) (by decide) (by decide) (by decide)]; omega) (by omega) (fun k hk => by rw [hrow k hk]; exact hse l k hk) ?_
        rw [hpe]
        refine ⟨⟨by omega, by omega⟩, ⟨by omega, by omega⟩, fun h => ?_, fun h => ?_⟩
        · have hst : stS (g 135) s n m z l = z := if_neg (Int.not_lt.mpr h)
          rw [hst] at after
          exact after g5 (fun q q1 _ => x1 q q1) x2 (fun p hp => by rw [x1 133 (by decide)]; exact u5 (by omega) p hp)
        · have hst : stS (g 135) s n m z l = (prN (seF (g 135) s n l) m, l) := if_pos h
          rw [hst] at after
          refine s_X11_copyRow (p0 := 132) (p1 := 133) (n := 6) (m := 6) (by decide) (by decide) (by decide) rfl rfl (by decide) (by decide) ?_
          refine after _ (fun q q1 q2 => ?_) (fun p hp hb => ?_) (fun p hp => ?_)
          · funext j; unfold cpy; rw [if_neg (fun h => q2 h.1)]; exact congrFun (x1 q q1) j
          · unfold cpy; rw [if_neg (fun h => absurd h.1 (by decide))]; exact x2 p hp hb
          · unfold cpy; rw [if_pos ⟨rfl, by omega⟩]; exact hrow p hp
      · intro k hk ihk g5 x1 x2 x3
        obtain ⟨i, i1, i2, i3⟩ := hmf k hk
        have hl1 := hlt k hk
        have e131 : g5 131 k = ((l.getD k 0 : Nat) : Int) := by rw [x1 131 (by decide)]; exact u2 k hk
        have e129 : g5 129 k = (i : Int) := by rw [x1 129 (by decide), u1 129 (by decide) (by decide) (by decide), r129 k hk]; exact i1
        refine r_X10_pairsOfBestSeating_51 ?_
        rw [show ((k : Int)).toNat = k from rfl, e131, e129]
        refine ⟨⟨by omega, by omega⟩, ⟨by omega, by omega⟩, fun h => absurd h (by omega), fun _ => ⟨by omega, by omega, by omega, by omega, by omega, by omega, ?_⟩⟩
        rw [show ((i : Int)).toNat = i from rfl, show (((l.getD k 0 : Nat) : Int)).toNat = l.getD k 0 from rfl]
        refine ihk _ (fun q q1 => by rw [up_off q1]; exact x1 q q1) (fun p hp hb => ?_) (fun j hj => ?_)
        · rw [up_at]
          by_cases e : p = i
          · subst e; omega
          · rw [if_neg e]; exact x2 p hp hb
        · rw [up_at]
          by_cases e : j = k
          · subst e
            rw [i1, show ((i : Nat) : Int).toNat = i from rfl, if_pos rfl, x1 130 (by decide), u1 130 (by decide) (by decide) (by decide), r130 _ hl1]
          · obtain ⟨i', i1', i2', i3'⟩ := hmf j (by omega)
            have hne : i' ≠ i := fun hh => e (inj j k (by omega) hk (by rw [i1, i1', hh]))
            have x3j := x3 j (by omega)
            rw [i1', show ((i' : Nat) : Int).toNat = i' from rfl] at x3j ⊢
            rw [if_neg hne]; exact x3j
  exact main 120 (List.range n) (-1, []) g3 (chk_all n (by omega)) (by decide) rfl (fun _ _ _ _ => rfl) (fun c hc => by unfold lf; rw [range_get hc]; exact r131 c hc) (fun p hp _ => w2 p hp) (by decide) (fun h => absurd h (by decide)) (by decide)
theorem seat_main {d : Nat} {dd : List (Nat × Nat)} {sh : Nat → Nat → Nat} {g : Nat → Nat → Int} {K : Int → (Nat → Nat → Int) → Prop} {g0 : Nat → Nat → Int} {n m : Nat} {s v : Int} (hI : Inv dd sh g0) (e135 : g 135 = g0 135) (hn : sm (bt s) 7 = (n : Int)) (hn5 : n ≤ 5) (hm : g0 135 0 = (m : Int)) (hmb : ∀ j : Nat, j < 7 → bt s j = 1 → j < m) (hv : v = -1 ∨ ∃ p : Nat, v = (p : Int) ∧ p < m ∧ bt s p = 1) (k1 : ∀ c : Nat, c < n → g 144 c = (c : Int)) (k2 : ∀ c : Nat, c < n → g 143 c = mf s c) (k3 : ∀ c, c < n → g 148 c = srtF (svF (g0 135) s n) n c) (k4 : ∀ p, p < m → g 147 p = g0 135 (18 + 7 * p))
    (hK : ∀ g', RefScr g g' → K (if v = -1 then (orS (g0 135) s n m).1 else seF (g0 135) s n (orS (g0 135) s n m).2 v.toNat) g') : rI (d + 3) m_X12_seating 71 [some (vR 134), none, some (vI v), some (vI ((n : Int))), some (vI (-1)), some (vI 1), none, none] [] dd sh g K := by
  have en := hI.s.n
  have hmf : ∀ c : Nat, c < n → ∃ i : Nat, mf s c = (i : Int) ∧ i < m ∧ bt s i = 1 ∧ sm (bt s) i = (c : Int) := fun c hc => by
    obtain ⟨j, j1, j2, j3, j4⟩ := mf_ex (s := s) (c := c) (by omega)
    exact ⟨j, j4, hmb j j1 j2, j2, j3⟩
  have inj : ∀ c c' : Nat, c < n → c' < n → mf s c = mf s c' → c = c' := fun c c' h h' e => by
    rcases Nat.lt_trichotomy c c' with h2 | h2 | h2
    · have := mf_lt (s := s) h2 (by omega); omega
    · exact h2
    · have := mf_lt (s := s) h2 (by omega); omega
  have b5 : ∀ p, p < m → 0 ≤ g0 135 (18 + 7 * p) ∧ g0 135 (18 + 7 * p) ≤ 39 := fun p hp => by have := (hI.s.ab.pp p (by omega) (by omega)); omega
  have hsv : ∀ k, 0 ≤ svF (g0 135) s n k ∧ svF (g0 135) s n k ≤ 39 := fun k => by
    unfold svF
    split
    · next h =>
      obtain ⟨i, i1, i2, i3, _⟩ := hmf k h
      rw [i1]; exact b5 i i2
    · exact ⟨Int.le_refl _, by decide⟩
  have hsr := srtF_bd hsv n
  have hse : ∀ l p, p < m → 0 ≤ seF (g0 135) s n l p ∧ seF (g0 135) s n l p ≤ 39 := fun l p hp => by
    unfold seF
    split
    · exact hsr _
    · exact b5 p hp
  have hS : ∀ g', (∀ q, q ≠ 144 → q ≠ 145 → q ≠ 147 → g' q = g q) → RefScr g g' := fun g' h => ⟨fun q hq => h q (by omega) (by omega) (by omega), fun k _ => by rw [h 134 (by omega) (by omega) (by omega)]⟩
  have main : ∀ (fu : Nat) (l : List Nat) (z : Int × List Nat) (g' : Nat → Nat → Int), chk n fu l = true → rows (stS (g0 135) s n m) n fu l z = orS (g0 135) s n m → (∀ q, q ≠ 144 → q ≠ 145 → q ≠ 147 → g' q = g q) → (∀ c, c < n → g' 144 c = lf l c) → (∀ p, p < m → bt s p = 0 → g' 147 p = g0 135 (18 + 7 * p)) → z.1 ≤ 36 → (0 ≤ z.1 → ∀ c, c < n → g' 145 c = srtF (svF (g0 135) s n) n (z.2.getD c 0)) → -1 ≤ z.1 → rI (d + 3) m_X12_seating 71 [some (vR 134), none, some (vI v), some (vI ((n : Int))), some (vI (z.1)), some (vI 1), none, none] [] dd sh (g') K := by
    intro fu
    induction fu with
    | zero => intro l z g' hc; exact absurd hc (by unfold chk; decide)
    | succ fu ih =>
      intro l z g' hc hR u1 u2 u3 u4 u5 u6
      obtain ⟨f', ef, hok, hor⟩ := chk_pos hc
      obtain rfl : f' = fu := by omega
      have hlt := okl_lt hok
      have hz := stS_b (a := g0 135) (s := s) (n := n) (l := l) (z := z) (m := m) (by omega) u4
      have hrel := nx_rel (f := fun c => (c : Int)) (r := g' 144) (n := n) (l := l) lf_mono hok u2
      have hev := prN_b (seF (g0 135) s n l) (n := m) (by omega)
      refine r_X12_seating_71 ⟨⟨by decide, by decide⟩, fun h => absurd h (by decide), fun _ => ?_⟩
      have after : ∀ g5 : Nat → Nat → Int, (∀ q, q ≠ 145 → q ≠ 147 → g5 q = g' q) → (∀ p, p < m → bt s p = 0 → g5 147 p = g0 135 (18 + 7 * p)) → (∀ c, c < n → g5 145 c = srtF (svF (g0 135) s n) n ((stS (g0 135) s n m z l).2.getD c 0)) → cI (d + 3) m_X12_nextRow [(vR 134), (vI (n : Int))] dd sh g5 (fun r4 g6 => rI (d + 3) m_X12_seating 71 [some (vR 134), none, some (vI v), some (vI ((n : Int))), some (vI ((stS (g0 135) s n m z l).1)), some (vI r4), none, none] [] dd sh g6 K) := by
        intro g5 x1 x3 x2
        generalize hzz : stS (g0 135) s n m z l = zz at hz x2 ⊢
        have e144 := x1 144 (by decide) (by decide)
        refine s_X12_nextRow (by omega) (by rw [e144]; exact hrel.1) (fun c hc => by have hb := hlt c hc; rw [e144, u2 c hc]; unfold lf; omega) (fun hend => ?_) (fun j hj g6 y1 y2 => ?_)
        · rw [e144, hrel.2.1] at hend
          rw [rows_end _ hend, hzz] at hR
          have hsc := hS g5 fun q q1 q2 q3 => by rw [x1 q q2 q3]; exact u1 q q1 q2 q3
          have hk1 := hK g5 hsc
          rw [← hR] at hk1
          refine r_X12_seating_71 ⟨⟨by decide, by decide⟩, fun _ => ⟨by rcases hv with rfl | ⟨p, rfl, h1, h2⟩ <;> exact ⟨by omega, by omega⟩, fun h => ?_, fun h => ?_⟩, fun h => absurd rfl h⟩
          · obtain ⟨p, rfl, hp, hb⟩ := hv.resolve_left h
            rw [if_neg h, show ((p : Int)).toNat = p from rfl] at hk1
            have s2 := bt_sum_le s (show p + 1 ≤ 7 by omega)
            have s3 : sm (bt s) (p + 1) = sm (bt s) p + bt s p := rfl
            have s4 := cnt_b s p
            obtain ⟨c0, hc0⟩ := Int.eq_ofNat_of_zero_le s4.1
            have hat := mf_at (s := s) (i := p) (by omega) hb
            rw [hc0, show ((c0 : Int)).toNat = c0 from rfl] at hat
            have hres : seF (g0 135) s n zz.2 p = srtF (svF (g0 135) s n) n (zz.2.getD c0 0) := by
              unfold seF
              rw [if_pos hb, hc0]; rfl
            rw [hres] at hk1
            have e143 : ∀ c, c < n → g5 143 c = mf s c := fun c hc => by rw [x1 143 (by decide) (by decide), u1 143 (by decide) (by decide) (by decide)]; exact k2 c hc
            refine loop (P := fun k => rI (d + 3) m_X12_seating 187 [some (vR 134), none, some (vI ((p : Int))), none, none, none, some (vI ((k : Int))), none] [] dd sh g5 K) (n := c0) ?_ ?_ 0 (by omega)
            · refine r_X12_seating_187 ?_
              rw [show ((c0 : Int)).toNat = c0 from rfl, e143 c0 (by omega), hat]
              exact ⟨by omega, by omega, ⟨by omega, by omega⟩, ⟨by omega, by omega⟩, fun _ => ⟨by omega, by rw [x2 c0 (by omega)]; exact hk1⟩, fun h => absurd rfl h⟩
            · intro k hk ihk
              have hlt2 := mf_lt (s := s) hk (by omega)
              obtain ⟨i, i1, i2, i3, i4⟩ := hmf k (by omega)
              refine r_X12_seating_187 ?_
              rw [show ((k : Int)).toNat = k from rfl, e143 k (by omega)]
              exact ⟨by omega, by omega, ⟨by omega, by omega⟩, ⟨by omega, by omega⟩, fun h => absurd h (by omega), fun _ => ihk⟩
          · rw [if_pos h] at hk1; exact hk1
        · rw [e144, hrel.2.1] at hj
          rw [rows_on _ hj, hzz] at hR
          have hc' : chk n f' (nxl n l) = true := hor.resolve_left (by omega)
          exact ih (nxl n l) zz g6 hc' hR (fun q q1 q2 q3 => by rw [y1 q q1, x1 q q2 q3]; exact u1 q q1 q2 q3) (fun c hc => by rw [y2 c, e144]; exact hrel.2.2 j hj c hc) (fun p hp hb => by rw [y1 147 (by decide)]; exact x3 p hp hb) hz.2 (fun _ p hp => by rw [y1 145 (by decide)]; exact x2 p hp) (by omega)
      refine loop (P := fun k => ∀ g5, (∀ q, q ≠ 147 → g5 q = g' q) → (∀ p, p < m → bt s p = 0 → g5 147 p = g0 135 (18 + 7 * p)) → (∀ j, j < k → g5 147 (mf s j).toNat = srtF (svF (g0 135) s n) n (l.getD j 0)) → rI (d + 3) m_X12_seating 79 [some (vR 134), none, some (vI v), some (vI ((n : Int))), some (vI (z.1)), none, some (vI ((k : Int))), none] [] dd sh g5 K) (n := n) ?_ ?_ 0 (by omega) g' (fun _ _ => rfl) u3 (fun j hj => absurd hj (by omega))
      · intro g5 x1 x2 x3
        have hrow := seF_of (f := g5 147) hn (by omega) x2 x3
        have hpe : prR (g5 147) m = prN (seF (g0 135) s n l) m := by rw [← pr_eq]; exact prN_congr hrow
        refine r_X12_seating_79 ⟨⟨by omega, by omega⟩, ⟨by omega, by omega⟩, fun _ => ?_, fun h => absurd h (by omega)⟩
        refine s_X12_facingNow (n := m) (by rw [x1 135 (by decide), u1 135 (by decide) (by decide) (by decide), e135]; exact hm) (by omega) (fun k hk => by rw [hrow k hk]; exact hse l k hk) ?_
        rw [hpe]
        refine ⟨⟨by omega, by omega⟩, ⟨by omega, by omega⟩, fun h => ?_, fun h => ?_⟩
        · have hst : stS (g0 135) s n m z l = z := if_neg (Int.not_lt.mpr h)
          rw [hst] at after
          exact after g5 (fun q _ q1 => x1 q q1) x2 (fun p hp => by rw [x1 145 (by decide)]; exact u5 (by omega) p hp)
        · have hst : stS (g0 135) s n m z l = (prN (seF (g0 135) s n l) m, l) := if_pos h
          rw [hst] at after
          refine loop (P := fun k => ∀ g6, (∀ q, q ≠ 145 → g6 q = g5 q) → (∀ c : Nat, c < k → g6 145 c = srtF (svF (g0 135) s n) n (l.getD c 0)) → rI (d + 3) m_X12_seating 135 [some (vR 134), none, some (vI v), some (vI ((n : Int))), some (vI (prN (seF (g0 135) s n l) m)), none, none, some (vI ((k : Int)))] [] dd sh g6 K) (n := n) ?_ ?_ 0 (by omega) g5 (fun _ _ => rfl) (fun c hc => absurd hc (by omega))
          · intro g6 y1 y2
            exact r_X12_seating_135 ⟨⟨by omega, by omega⟩, ⟨by omega, by omega⟩, fun _ => after g6 (fun q q1 q2 => by rw [y1 q q1]; exact x1 q q2) (fun p hp hb => by rw [y1 147 (by decide)]; exact x2 p hp hb) y2, fun h => absurd h (by omega)⟩
          · intro k hk ihk g6 y1 y2
            obtain ⟨i, i1, i2, i3, i4⟩ := hmf k hk
            have e143 : g6 143 k = (i : Int) := by rw [y1 143 (by decide), x1 143 (by decide), u1 143 (by decide) (by decide) (by decide), k2 k hk]; exact i1
            have x3k := x3 k hk
            rw [i1] at x3k
            refine r_X12_seating_135 ?_
            rw [show ((k : Int)).toNat = k from rfl, e143]
            refine ⟨⟨by omega, by omega⟩, ⟨by omega, by omega⟩, fun h => absurd h (by omega), fun _ => ⟨by omega, by omega, by omega, by omega, by omega, ?_⟩⟩
            refine ihk _ (fun q q1 => by rw [up_off q1]; exact y1 q q1) (fun c hc => ?_)
            rw [up_at]
            by_cases e : c = k
            · subst e; rw [if_pos rfl, y1 147 (by decide)]; exact x3k
            · rw [if_neg e]; exact y2 c (by omega)
      · intro k hk ihk g5 x1 x2 x3
        obtain ⟨i, i1, i2, i3, i4⟩ := hmf k hk
        have hl1 := hlt k hk
        have e144 : g5 144 k = ((l.getD k 0 : Nat) : Int) := by rw [x1 144 (by decide)]; exact u2 k hk
        have e143 : g5 143 k = (i : Int) := by rw [x1 143 (by decide), u1 143 (by decide) (by decide) (by decide), k2 k hk]; exact i1
        refine r_X12_seating_79 ?_
        rw [show ((k : Int)).toNat = k from rfl, e144, e143]
        refine ⟨⟨by omega, by omega⟩, ⟨by omega, by omega⟩, fun h => absurd h (by omega), fun _ => ⟨by omega, by omega, by omega, by omega, by omega, by omega, by omega, ?_⟩⟩
        rw [show ((i : Int)).toNat = i from rfl, show (((l.getD k 0 : Nat) : Int)).toNat = l.getD k 0 from rfl]
        refine ihk _ (fun q q1 => by rw [up_off q1]; exact x1 q q1) (fun p hp hb => ?_) (fun j hj => ?_)
        · rw [up_at]
          by_cases e : p = i
          · subst e; omega
          · rw [if_neg e]; exact x2 p hp hb
        · rw [up_at]
          by_cases e : j = k
          · subst e
            rw [i1, show ((i : Nat) : Int).toNat = i from rfl, if_pos rfl, x1 148 (by decide), u1 148 (by decide) (by decide) (by decide), k3 _ hl1]
          · obtain ⟨i', i1', i2', i3', i4'⟩ := hmf j (by omega)
            have hne : i' ≠ i := fun hh => e (inj j k (by omega) hk (by rw [i1, i1', hh]))
            have x3j := x3 j (by omega)
            rw [i1', show ((i' : Nat) : Int).toNat = i' from rfl] at x3j ⊢
            rw [if_neg hne]; exact x3j
  exact main 120 (List.range n) (-1, []) g (chk_all n (by omega)) rfl (fun _ _ _ _ => rfl) (fun c hc => by unfold lf; rw [range_get hc]; exact k1 c hc) (fun p hp _ => k4 p hp) (by decide) (fun h => absurd h (by decide)) (by decide)
theorem sim_seating : S_seating := by
  intro dd sh g hI a1 a2 h1 h2
  have en := hI.s.n
  have hA := hI.s.ab
  obtain ⟨m, hm⟩ := Int.eq_ofNat_of_zero_le en.2.1
  have hp2 := p2_le (m := g 135 0) en.2.1 (by omega)
  unfold SimI
  have no : ∀ g1, ClScr g g1 → (a1 ≤ 0 ∨ 2 ^ (g 135 0).toNat ≤ a1 ∨ 5 < sm (bt a1) 10 ∨ (a2 ≠ -1 ∧ (a2 < 0 ∨ g 135 0 ≤ a2 ∨ bt a1 a2.toNat = 0))) → cI 200 m_X12_seating [vR 134, vI a1, vI a2] dd sh g1 (fun r' g3 => (-2 : Int) = r' ∧ i32 (-2) ∧ Inv dd sh g3) := by
    intro g1 hs hno
    have e5 : g1 135 = g 135 := hs 135 (by omega)
    have done : Inv dd sh g1 := hI.scr hs RefScr.rf
    refine mkI (ls := [some (vR 134), some (vI a1), some (vI a2), none, none, none, none, none]) rfl rfl rfl rfl rfl (r_X12_seating_0 ?_)
    rw [e5, Int.one_mul]
    refine ⟨by omega, by omega, s_X12_isIn h1 ⟨by decide, by decide⟩ ⟨by omega, by omega⟩ (fun c3 c4 => ⟨⟨by decide, by decide⟩, fun h => absurd h (by decide), fun _ => ?_⟩) (fun _ => ⟨⟨by decide, by decide⟩, fun _ => ⟨rfl, ⟨by decide, by decide⟩, done⟩, fun h => absurd rfl h⟩)⟩
    have hb := sm_bound (f := bt a1) (n := 10) (B := 1) fun j _ => bt01 _ j
    refine s_X12_bits (by omega) (by omega) ⟨⟨by omega, by omega⟩, fun _ => ⟨rfl, ⟨by decide, by decide⟩, done⟩, fun h5 => ⟨h2, fun h => absurd h (by omega), fun h => ?_⟩⟩
    refine s_X12_isSuspect (by rw [e5]; exact en.2) h2 (fun c1 c2 => ⟨⟨by decide, by decide⟩, fun h => absurd h (by decide), fun _ => ?_⟩) (fun _ => ⟨⟨by decide, by decide⟩, fun _ => ⟨rfl, ⟨by decide, by decide⟩, done⟩, fun h => absurd rfl h⟩)
    rw [e5] at c2
    exact s_X12_has (by omega) (by omega) c1 (by omega) fun r er r0 r1 => ⟨⟨by omega, by omega⟩, fun h => absurd h (by omega), fun _ => ⟨rfl, ⟨by decide, by decide⟩, done⟩⟩
  refine mkI (ls := [some (vR 1), some (vI a1), some (vI a2)]) rfl rfl rfl rfl rfl (r_X11_seating_0 ?_)
  rw [en.1]
  refine s_X11_isSet h1 en.2.1 (by omega) (fun c3 c4 => ⟨⟨by decide, by decide⟩, fun h => absurd h (by decide), fun _ => ?_⟩) (fun h => ⟨⟨by decide, by decide⟩, fun _ => no g ClScr.rf (by omega), fun h => absurd rfl h⟩)
  have lt7 : a1 < 2 ^ 7 := by omega
  have b10 := bits_eq (x := a1) (q := 7) (m := 10) (by omega) lt7 (by decide)
  have b32 := bits_eq (x := a1) (q := 7) (m := 32) (by omega) lt7 (by decide)
  have hb := sm_bound (f := bt a1) (n := 7) (B := 1) fun j _ => bt01 _ j
  obtain ⟨n, hn⟩ := Int.eq_ofNat_of_zero_le hb.1
  have hmb : ∀ j : Nat, j < 7 → bt a1 j = 1 → j < m := fun j _ hj => by have := bt_in (m := g 135 0) (by omega) c4 en.2.1 j hj; omega
  refine s_X11_countBits (by omega) (by omega) ?_
  rw [b32]
  rw [b10] at no
  have ores := orS_b (a := g 135) (s := a1) (n := n) (m := m) (by omega)
  have b5 : ∀ p, p < m → 0 ≤ g 135 (18 + 7 * p) ∧ g 135 (18 + 7 * p) ≤ 39 := fun p hp => by have := (hA.pp p (by omega) (by omega)); omega
  have hse : ∀ l p, p < m → i32 (seF (g 135) a1 n l p) := fun l p hp => by
    unfold seF
    split
    · have := srtF_bd (sv := svF (g 135) a1 n) (fun k => by
        unfold svF
        split
        · next h =>
          obtain ⟨j, j1, j2, j3, j4⟩ := mf_ex (s := a1) (c := k) (by omega)
          rw [j4]; exact b5 j (hmb j j1 j2)
        · exact ⟨Int.le_refl _, by decide⟩) n (l.getD (sm (bt a1) p).toNat 0)
      exact ⟨by omega, by omega⟩
    · have := b5 p hp; exact ⟨by omega, by omega⟩
  -- the reference, from a state behind the class's
  have ref : ∀ g1, ClScr g g1 → sm (bt a1) 7 ≤ 5 → (a2 = -1 ∨ ∃ p : Nat, a2 = (p : Int) ∧ p < m ∧ bt a1 p = 1) → ∀ res : Int, res = (if a2 = -1 then (orS (g 135) a1 n m).1 else seF (g 135) a1 n (orS (g 135) a1 n m).2 a2.toNat) → cI 200 m_X12_seating [vR 134, vI a1, vI a2] dd sh g1 (fun r' g3 => res = r' ∧ i32 res ∧ Inv dd sh g3) := by
    intro g1 hs h5 hv res hres
    have e5 : g1 135 = g 135 := hs 135 (by omega)
    have hri : i32 res := by
      rw [hres]
      rcases hv with h | ⟨p, rfl, hp, hb⟩
      · rw [if_pos h]; exact ⟨by omega, by omega⟩
      · rw [if_neg (by omega)]; exact hse _ p hp
    have fin : ∀ g2, (∀ q, q ≠ 143 → q ≠ 144 → g2 q = g1 q) → (∀ i : Nat, i < 7 → bt a1 i = 1 → g2 143 (sm (bt a1) i).toNat = (i : Int)) → (∀ j : Nat, (j : Int) < sm (bt a1) 7 → g2 144 j = (j : Int)) → cV 199 m_X12_sortSeats [vR 134, vI (sm (bt a1) 7)] dd sh g2 (fun g17 => cV 199 m_X12_laySeats [vR 134] dd sh g17 (fun g19 => rI 199 m_X12_seating 71 [some (vR 134), none, some (vI a2), some (vI ((sm (bt a1) 7))), some (vI (-1)), some (vI 1), none, none] [] dd sh g19 (fun r' g3 => res = r' ∧ i32 res ∧ Inv dd sh g3))) := by
      intro g2 f1 f2 f3
      rw [hn] at f3 ⊢
      have e52 : g2 135 = g 135 := by rw [f1 135 (by decide) (by decide)]; exact e5
      have k2 : ∀ c : Nat, c < n → g2 143 c = mf a1 c := fun c hc => mf_of f2 (by omega)
      have hmf : ∀ c : Nat, c < n → ∃ i : Nat, mf a1 c = (i : Int) ∧ i < m := fun c hc => by
        obtain ⟨j, j1, j2, j3, j4⟩ := mf_ex (s := a1) (c := c) (by omega)
        exact ⟨j, j4, hmb j j1 j2⟩
      refine s_X12_sortSeats (sv := svF (g 135) a1 n) (by omega) (fun k => ?_) (fun k hk => ?_) (fun k hk => ?_) fun g3 t1 t2 => ?_
      · unfold svF
        split
        · next h =>
          obtain ⟨i, i1, i2⟩ := hmf k h
          rw [i1]; exact b5 i i2
        · exact ⟨Int.le_refl _, by decide⟩
      · obtain ⟨i, i1, i2⟩ := hmf k hk
        rw [k2 k hk, i1]; omega
      · rw [k2 k hk, e52]
        unfold svF
        rw [if_pos hk]
      have e53 : g3 135 = g 135 := by rw [t1 135 (by decide)]; exact e52
      refine s_X12_laySeats (n := m) (by rw [e53]; exact hA) (by rw [e53]; exact hm) fun g4 u1 u2 => ?_
      have hr : RefScr g1 g4 := ⟨fun q hq => by rw [u1 q (by omega), t1 q (by omega), f1 q (by omega) (by omega)], fun k _ => by rw [u1 134 (by omega), t1 134 (by omega), f1 134 (by omega) (by omega)]⟩
      refine seat_main (m := m) hI (by rw [u1 135 (by decide)]; exact e53) hn (by omega) hm hmb hv (fun c hc => by rw [u1 144 (by decide), t1 144 (by decide)]; exact f3 c (by omega)) (fun c hc => by rw [u1 143 (by decide), t1 143 (by decide)]; exact k2 c hc) (fun c hc => by rw [u1 148 (by decide)]; exact t2 c hc) (fun p hp => by rw [u2 p hp, e53]) fun g5 hr5 => ⟨hres, hri, hI.scr hs (hr.tr hr5)⟩
    refine mkI (ls := [some (vR 134), some (vI a1), some (vI a2), none, none, none, none, none]) rfl rfl rfl rfl rfl (r_X12_seating_0 ?_)
    rw [e5, Int.one_mul]
    refine ⟨by omega, by omega, s_X12_isIn h1 ⟨by decide, by decide⟩ ⟨by omega, by omega⟩ (fun c5 c6 => ⟨⟨by decide, by decide⟩, fun h => absurd h (by decide), fun _ => ?_⟩) (fun h => absurd h (by omega))⟩
    refine s_X12_bits (by omega) (by omega) ?_
    rw [b10]
    refine ⟨⟨by omega, by omega⟩, fun h => absurd h (by omega), fun _ => ⟨h2, fun h => ?_, fun h => ?_⟩⟩
    · exact s_X12_layMembers (by omega) fun g2 f1 f2 f3 => fin g2 f1 f2 f3
    · obtain ⟨p, rfl, hp, hbp⟩ := hv.resolve_left h
      refine s_X12_isSuspect (by rw [e5]; exact en.2) h2 (fun _ _ => ⟨⟨by decide, by decide⟩, fun h => absurd h (by decide), fun _ => ?_⟩) (fun h => absurd h (by rw [e5]; omega))
      refine s_X12_has (by omega) (by omega) (by omega) (by omega) fun r er r0 r1 => ⟨⟨by omega, by omega⟩, fun _ => ?_, fun h => absurd h (by rw [show ((p : Int)).toNat = p from rfl] at er; omega)⟩
      exact s_X12_layMembers (by omega) fun g2 f1 f2 f3 => fin g2 f1 f2 f3
  refine ⟨⟨by omega, by omega⟩, fun h5 => ⟨h2, fun h => ?_, fun h => ?_⟩, fun h => no g ClScr.rf (by omega)⟩
  · refine s_X7_hasSuspect hI.s h2 (fun c5 c6 => ⟨⟨by decide, by decide⟩, fun h => absurd h (by decide), fun _ => ?_⟩) (fun h => ⟨⟨by decide, by decide⟩, fun _ => no g ClScr.rf (by omega), fun h => absurd rfl h⟩)
    obtain ⟨p, rfl⟩ := Int.eq_ofNat_of_zero_le c5
    refine s_X11_hasBit (by omega) (by omega) (by omega) (by omega) fun r er r0 r1 => ⟨⟨by omega, by omega⟩, fun hr => ?_, fun hr => no g ClScr.rf (by omega)⟩
    rw [show ((p : Int)).toNat = p from rfl] at er
    refine mkI (ls := [some (vR 128), some (vI a1), some (vI ((p : Int)))]) rfl rfl rfl rfl rfl (r_X10_seatInBestSeating_0 ?_)
    refine s_X10_pairsOfBest (n := n) (m := m) hI (by omega) hn (by omega) hm hmb fun g1 hs hk => ?_
    refine ⟨⟨by omega, by omega⟩, fun h => absurd h (by omega), fun _ => ⟨fun h => absurd h (by omega), fun _ => ⟨by omega, by omega, ?_⟩⟩⟩
    rw [show ((p : Int)).toNat = p from rfl, hk p (by omega)]
    exact ref g1 hs h5 (Or.inr ⟨p, rfl, by omega, by omega⟩) _ (by rw [if_neg h]; rfl)
  · refine s_X10_pairsOfBest (n := n) (m := m) hI (by omega) hn (by omega) hm hmb fun g1 hs hk => ?_
    exact ref g1 hs h5 (Or.inl h) _ (by rw [if_pos h])
