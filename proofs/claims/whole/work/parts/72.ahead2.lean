-- taken back after a look ahead
theorem RS.rest {s nv se ts ha he le bk a b s2 se2 ha2 bk2 r s' se' ha' bk' : Nat → Int} (H : RS s nv se ts ha he le bk a) (hr : savedR s se ha bk r) (H2 : RS s2 nv se2 ts ha2 he le bk2 b) (e0 : b 0 = a 0) (e1 : b 1 = a 1)
    (ep : ∀ p : Nat, p < 6 → b (16 + 7 * p) = a (16 + 7 * p) ∧ b (17 + 7 * p) = a (17 + 7 * p) ∧ b (21 + 7 * p) = a (21 + 7 * p)) (ec : ∀ c : Nat, c < 7 → b (58 + 4 * c) = a (58 + 4 * c) ∧ b (59 + 4 * c) = a (59 + 4 * c)) (h : restR s2 ts r s' se' ha' bk') : RS s' nv se' ts ha' he le bk' a := by
  obtain ⟨h1, ⟨h8, h9, h2, h12, h13, h14, h16, h17⟩, hp, hb⟩ := h
  obtain ⟨⟨r0, r1, r2, r3, r4, r5, r6, r7, r8⟩, rp, rb⟩ := hr
  have hbt := H.bits
  have hn := H.n
  have hm := H.m
  have hw := H.wr
  refine RS.chg H2 e0.symm e1.symm (h1 0 (by decide) (by decide) (by decide) (by decide) (by decide) (by decide) (by decide) (by decide)) (h1 7 (by decide) (by decide) (by decide) (by decide) (by decide) (by decide) (by decide) (by decide)) (h1 1 (by decide) (by decide) (by decide) (by decide) (by decide) (by decide) (by decide) (by decide)) ?_ ?_ ?_ ?_ ?_ ?_ (fun p hp' hq => ?_) (fun p hp' => ?_) (fun p hp' hq => ?_) (fun c hc hq => ?_) (fun c hc hq => ?_) (fun i hi => ?_) (fun p hp' hq => ?_) (fun c hc hq => ?_)
  · rw [h12, r4]; exact H.night
  · rw [h13, r5]; exact H.tak
  · rw [h14, r6]; exact H.x
  · rw [h17, r8]; exact H.wr
  · rw [h16, r7]; exact H.el
  · rw [h2, h8, h9, r3, r1, r2]; exact hbt.2.2
  · have h3 := (hp p hp').1 (by omega)
    have h4 := H.pp p hp' (by omega)
    have h5 := rp p hp'
    rw [h2, r3, h3.1, h3.2, h5.1, h5.2]
    exact ⟨h4.2.2.1, h4.2.2.2.1, h4.2.2.2.2.1⟩
  · have h4 := H.pb p hp'
    have h5 := rp p hp'
    by_cases c : (p : Int) < r 0
    · have h3 := (hp p hp').1 c
      rw [h3.1, h3.2, h5.1, h5.2]; exact ⟨h4.2.1, h4.2.2.2⟩
    · have h3 := (hp p hp').2 (by omega)
      rw [h3.1, h3.2]; exact ⟨h4.2.2.1, by decide, by decide⟩
  · have h3 := (hp p hp').2 (by omega)
    rw [h2, r3, h3.2]
    exact ⟨(H.pr p hp' (by omega)).2.1, rfl⟩
  · rw [h8, h9, r1, r2]; exact (H.cc c hc (by omega)).2.2
  · rw [h8, h9, r1, r2]; exact H.cr c hc (by omega)
  · rw [h16, r7, hb _ (by omega), rb _ (by omega)]
    have := H.bk i hi
    rw [e0, e1]; exact this
  · obtain ⟨x1, x2, x3⟩ := ep p hp'
    exact ⟨x1.symm, x2.symm, x3.symm⟩
  · obtain ⟨x1, x2⟩ := ec c hc
    exact ⟨x1.symm, x2.symm⟩
/-- a look ahead leaves the class so -/
def AF (g g' : Nat → Nat → Int) : Prop := ∀ q, q ≠ 3 → q ≠ 5 → q ≠ 7 → q ≠ 10 → (q < 116 ∨ 120 < q) → g' q = g q
theorem s_back {d : Nat} {dd : List (Nat × Nat)} {sh : Nat → Nat → Nat} {g : Nat → Nat → Int} {K : (Nat → Nat → Int) → Prop} {ga gb : Nat → Nat → Int} {a b : Nat → Int} (hS : RSc ga a) (f1 : ∀ q, q ≠ 120 → gb q = ga q) (sv : savedR (ga 3) (ga 5) (ga 7) (ga 10) (gb 120)) (f : NF gb g) (hS2 : RSc g b) (e0 : b 0 = a 0) (e1 : b 1 = a 1)
    (ep : ∀ p : Nat, p < 6 → b (16 + 7 * p) = a (16 + 7 * p) ∧ b (17 + 7 * p) = a (17 + 7 * p) ∧ b (21 + 7 * p) = a (21 + 7 * p)) (ec : ∀ c : Nat, c < 7 → b (58 + 4 * c) = a (58 + 4 * c) ∧ b (59 + 4 * c) = a (59 + 4 * c))
    (hK : ∀ g', AF ga g' → RSc g' a → K g') : cV (d + 1) m_X7_restoreFrom [(vR 3), (vR 120)] dd sh g K := by
  have hn := hS.n
  have e120 : g 120 = gb 120 := f 120 (by decide) (by decide) (by decide) (by decide)
  refine s_X7_restoreFrom (p1 := 120) (by omega) (T_120 dd) (by rw [e120, sv.1.1]; exact ⟨by omega, by omega⟩) fun g' f2 hr => hK g' (fun q q3 q5 q7 q10 q6 => ?_) ?_
  · rw [f2 q q3 q5 q7 q10, f q q3 q7 q10 (by omega), f1 q (by omega)]
  · have fr : ∀ q, q = 4 ∨ q = 6 ∨ q = 8 ∨ q = 9 → g' q = ga q ∧ g q = ga q := fun q hq => by
      have x1 : g q = ga q := by rw [f q (by omega) (by omega) (by omega) (by omega), f1 q (by omega)]
      exact ⟨by rw [f2 q (by omega) (by omega) (by omega) (by omega)]; exact x1, x1⟩
    rw [e120, (fr 6 (by decide)).2] at hr
    have H2 : RS (g 3) (ga 4) (g 5) (ga 6) (g 7) (ga 8) (ga 9) (g 10) b := by
      have := hS2
      unfold RSc at this
      rw [(fr 4 (by decide)).2, (fr 6 (by decide)).2, (fr 8 (by decide)).2, (fr 9 (by decide)).2] at this
      exact this
    unfold RSc
    rw [(fr 4 (by decide)).1, (fr 6 (by decide)).1, (fr 8 (by decide)).1, (fr 9 (by decide)).1]
    exact RS.rest hS sv H2 e0 e1 ep ec hr
theorem s_X12_begin {d : Nat} {dd : List (Nat × Nat)} {sh : Nat → Nat → Nat} {g : Nat → Nat → Int} {K : (Nat → Nat → Int) → Prop} (hK : ∀ g', (∀ q, q ≠ 134 → q ≠ 142 → g' q = g q) → (∀ k, k ≠ 22 → k ≠ 23 → k ≠ 24 → g' 134 k = g 134 k) → (g' 134 22 = 0 ∧ g' 134 23 = 0 ∧ g' 134 24 = 0) → (∀ k, 10 ≤ k → k < 86 → g' 142 k = g 135 k) → K g') : cV (d + 1) m_X12_begin [(vR 134)] dd sh g K := by
  refine mkV (ls := [some (vR 134), none]) rfl rfl rfl rfl rfl (r_X12_begin_0 ?_)
  refine loop (P := fun j => ∀ g', (∀ q, q ≠ 142 → g' q = g q) → (∀ k, 10 ≤ k → k < 10 + j → g' 142 k = g 135 k) → rV d m_X12_begin 3 [some (vR 134), some (vI (((10 + j : Nat) : Int)))] [] dd sh (g') K) (n := 76) ?_ ?_ 0 (by omega) g (fun _ _ => rfl) (fun k h1 h2 => absurd h2 (by omega))
  · intro g' f1 f2
    refine r_X12_begin_3 ⟨⟨by omega, by omega⟩, fun _ => ?_, fun h => absurd h (by omega)⟩
    refine hK _ (fun q q1 q2 => by rw [up_off q1, up_off q1, up_off q1]; exact f1 q q2) (fun k k1 k2 k3 => by rw [up_at, if_neg k3, up_at, if_neg k2, up_at, if_neg k1, f1 134 (by decide)]) ⟨by rw [up_at, if_neg (by decide), up_at, if_neg (by decide), up_at, if_pos rfl], by rw [up_at, if_neg (by decide), up_at, if_pos rfl], by rw [up_at, if_pos rfl]⟩ (fun k h1 h2 => by rw [up_off (by decide), up_off (by decide), up_off (by decide)]; exact f2 k h1 (by omega))
  · intro j hj ih g' f1 f2
    have hh := ih (up g' 142 (10 + j) (g' 135 (10 + j))) (fun q hq => by rw [up_off hq]; exact f1 q hq) (fun k h1 h2 => by
      rw [up_at]
      by_cases h : k = 10 + j
      · rw [if_pos h, f1 135 (by decide), h]
      · rw [if_neg h]; exact f2 k h1 (by omega))
    refine r_X12_begin_3 ⟨⟨by omega, by omega⟩, fun h => absurd h (by omega), fun _ => ⟨by omega, by omega, by omega, ?_⟩⟩
    rw [show (((10 + j : Nat) : Int)).toNat = 10 + j from rfl]
    exact hh
theorem s_X12_putBack {d : Nat} {dd : List (Nat × Nat)} {sh : Nat → Nat → Nat} {g : Nat → Nat → Int} {K : (Nat → Nat → Int) → Prop} (hK : ∀ g', (∀ q, q ≠ 134 → q ≠ 135 → g' q = g q) → (∀ k, k ≠ 22 → g' 134 k = g 134 k) → g' 134 22 = 1 → (∀ k, 10 ≤ k → k < 86 → g' 135 k = g 142 k) → (∀ k, k < 10 ∨ 86 ≤ k → g' 135 k = g 135 k) → K g') : cV (d + 1) m_X12_putBack [(vR 134)] dd sh g K := by
  refine mkV (ls := [some (vR 134), none]) rfl rfl rfl rfl rfl (r_X12_putBack_0 ?_)
  refine loop (P := fun j => ∀ g', (∀ q, q ≠ 135 → g' q = g q) → (∀ k, 10 ≤ k → k < 10 + j → g' 135 k = g 142 k) → (∀ k, k < 10 ∨ 10 + j ≤ k → g' 135 k = g 135 k) → rV d m_X12_putBack 3 [some (vR 134), some (vI (((10 + j : Nat) : Int)))] [] dd sh (g') K) (n := 76) ?_ ?_ 0 (by omega) g (fun _ _ => rfl) (fun k h1 h2 => absurd h2 (by omega)) (fun _ _ => rfl)
  · intro g' f1 f2 f3
    refine r_X12_putBack_3 ⟨⟨by omega, by omega⟩, fun _ => ?_, fun h => absurd h (by omega)⟩
    exact hK _ (fun q q1 q2 => by rw [up_off q1]; exact f1 q q2) (fun k k1 => by rw [up_at, if_neg k1, f1 134 (by decide)]) (by rw [up_at, if_pos rfl]) (fun k h1 h2 => by rw [up_off (by decide)]; exact f2 k h1 (by omega)) (fun k h1 => by rw [up_off (by decide)]; exact f3 k (by omega))
  · intro j hj ih g' f1 f2 f3
    have hh := ih (up g' 135 (10 + j) (g' 142 (10 + j))) (fun q hq => by rw [up_off hq]; exact f1 q hq) (fun k h1 h2 => by
      rw [up_at]
      by_cases h : k = 10 + j
      · rw [if_pos h, f1 142 (by decide), h]
      · rw [if_neg h]; exact f2 k h1 (by omega)) (fun k h1 => by rw [up_at, if_neg (by omega)]; exact f3 k (by omega))
    refine r_X12_putBack_3 ⟨⟨by omega, by omega⟩, fun h => absurd h (by omega), fun _ => ⟨by omega, by omega, by omega, ?_⟩⟩
    rw [show (((10 + j : Nat) : Int)).toNat = 10 + j from rfl]
    exact hh
theorem AB.lk {a x z : Nat → Int} (H : AB x) (Ha : AB a) (h : RLo x z) (h0 : z 0 = a 0) (h1 : z 1 = a 1) (h13 : z 13 = a 13) (hb : ∀ k, 2524 ≤ k → z k = a k) : AB z := by
  have x0 := h 0 (by decide) (by decide)
  have x1 := h 1 (by decide) (by decide)
  refine H.lo (fun k k1 _ k3 => (h k k1 k3).symm) (by rw [← h 12 (by decide) (by decide)]; exact H.x) (by rw [h13]; exact Ha.wr) fun i hi => ?_
  rw [hb _ (by omega), x0, x1, h0, h1]
  exact Ha.bk i (by omega)
theorem s_X12_behind {d : Nat} {dd : List (Nat × Nat)} {sh : Nat → Nat → Nat} {g : Nat → Nat → Int} {K : Int → (Nat → Nat → Int) → Prop} {g1 : Nat → Nat → Int} {n m N J w : Nat} (hA : AB (g1 135)) (hX : RXt dd sh g1 (g1 135) (g1 137)) (ht : -1 ≤ g1 135 3 ∧ g1 135 3 < g1 135 2) (h2 : 0 ≤ g1 135 2 ∧ g1 135 2 ≤ 4) (h22 : g1 134 22 = 1) (hn : g1 135 0 = n) (hm : g1 135 1 = m) (hN : N ≤ 60) (hJ : J ≤ N) (hJ1 : g1 135 10 + J ≤ 9999) (hJ2 : J < N → g1 135 10 + J = 9999) (hw : w < 2524)
    (hRI : ∀ i, i ≤ J → RI (g1 137) n m (g1 135) i) (hs : g = g1) (hK : ∀ g', RefScr g1 g' → g' 134 23 = (rit false (g1 137) n m (g1 135) J).2.1 → K ((rit false (g1 137) n m (g1 135) J).1 w) g') : cI (d + 9) m_X12_behind [(vR 134), (vI (N : Int)), (vI (w : Int))] dd sh g K := by
  subst hs
  have en := hA.n
  have em := hA.m
  have hnt := hA.night
  refine mkI (ls := [some (vR 134), some (vI (N : Int)), some (vI (w : Int)), none]) rfl rfl rfl rfl rfl (r_X12_behind_0 ?_)
  refine s_X12_begin fun g2 f1 f2 f3 f4 => ?_
  have e5 : g2 135 = g 135 := f1 135 (by decide) (by decide)
  have e7 : g2 137 = g 137 := f1 137 (by decide) (by decide)
  have hp0 : PR g2 g2 (rit false (g 137) n m (g 135) (min 0 J)) := ⟨fun _ _ _ _ _ => rfl, fun _ _ _ => rfl, by rw [Nat.zero_min]; exact e5, by rw [Nat.zero_min]; exact f3.2.1, by rw [Nat.zero_min]; exact f3.2.2⟩
  refine loop (P := fun j => ∀ g', PR g2 g' (rit false (g 137) n m (g 135) (min j J)) → rI (d + 8) m_X12_behind 6 [some (vR 134), some (vI ((N : Int))), some (vI ((w : Int))), some (vI ((j : Int)))] [] dd sh (g') K) (n := N) ?_ ?_ 0 (by omega) g2 hp0
  · intro g' hp
    rw [Nat.min_eq_right hJ] at hp
    refine r_X12_behind_6 ⟨⟨by omega, by omega⟩, ⟨by omega, by omega⟩, fun _ => ⟨by omega, by omega, ?_⟩, fun h => absurd h (by omega)⟩
    refine s_X12_putBack fun g3 b1 b2 b3 b4 b5 => ?_
    rw [hp.2.2.1, show ((w : Int)).toNat = w from rfl]
    refine hK g3 ⟨fun q hq => ?_, fun k hk => ?_⟩ ?_
    · by_cases q135 : q = 135
      · subst q135
        funext k
        by_cases hk : 10 ≤ k ∧ k < 86
        · rw [b4 k hk.1 hk.2, hp.1 142 (by decide) (by decide) (by decide) (by decide), f4 k hk.1 hk.2]
        · rw [b5 k (by omega), hp.2.2.1]
          by_cases hk2 : k < 2524
          · exact rit_lo (by omega) (by omega) (by omega) (fun p hp => by omega) (fun c hc => by omega) J
          · exact rit_bk (by omega) (by omega) (by omega) J
      · rw [b1 q (by omega) q135, hp.1 q (by omega) q135 (by omega) (by omega), f1 q (by omega) (by omega)]
    · by_cases k22 : k = 22
      · rw [k22, b3, h22]
      · rw [b2 k k22, hp.2.1 k (by omega) (by omega), f2 k k22 (by omega) (by omega)]
    · rw [b2 23 (by decide)]; exact hp.2.2.2.1
  · intro j hj ih g' hp
    have z10 := rit_10 (w := false) (T := g 137) (n := n) (m := m) (a := g 135) (min j J)
    have zz : ∀ k, k < 10 → (rit false (g 137) n m (g 135) (min j J)).1 k = g 135 k := fun k hk => rit_lo (by omega) (by omega) (by omega) (fun p hp => by omega) (fun c hc => by omega) _
    refine r_X12_behind_6 ?_
    rw [hp.2.2.1, z10]
    refine ⟨⟨by omega, by omega⟩, ⟨by omega, by omega⟩, fun h => absurd h (by omega), fun _ => ⟨⟨by omega, by omega⟩, fun h9 => ?_, fun h9 => ?_⟩⟩
    · have e : min (j + 1) J = min j J := by omega
      rw [e] at ih
      exact ih g' hp
    · have e : min (j + 1) J = min j J + 1 := by omega
      rw [e] at ih
      have hrw := rit_RW (T := g 137) (n := n) (m := m) (a := g 135) (by omega) (by omega) (min j J)
      refine s_X12_pass (g0 := g2) (a0 := (rit false (g 137) n m (g 135) (min j J)).1) (w := false) (n := n) (m := m) (s := rit false (g 137) n m (g 135) (min j J)) (by rw [e7]; exact hX.fr (zz 2 (by decide)) fun q hq => f1 q (by omega) (by omega)) (by rw [zz 3 (by decide), zz 2 (by decide)]; exact ht) (by rw [zz 2 (by decide)]; exact h2) (by rw [zz 0 (by decide)]; exact hn) (by rw [zz 1 (by decide)]; exact hm) (fun _ _ _ _ => rfl) ?_ hp (by rw [f3.1]; rfl) fun g3 h3 => ?_
      · exact AB.lk (hRI _ (by omega)).1 hA hrw.1 (zz 0 (by decide)) (zz 1 (by decide)) (rit_bk (by omega) (by omega) (Or.inr rfl) _) (fun k hk => rit_bk (by omega) (by omega) (Or.inl hk) _)
      · rw [e7] at h3
        exact ih g3 h3
/-- the class's look ahead: what stands after J nights, and then all is as before -/
theorem s_ahead {d : Nat} {dd : List (Nat × Nat)} {sh : Nat → Nat → Nat} {g : Nat → Nat → Int} {a : Nat → Int} {n m N J : Nat} {M : Nat} {P : (Nat → Nat → Int) → Prop} (hS : RSc g a) (hH : RHc g a) (hX : RXt dd sh g a (g 137)) (hn : a 0 = n) (hm : a 1 = m) (hN : N ≤ 60) (hJ : J ≤ N) (hJ1 : a 10 + J ≤ 9999) (hJ2 : J < N → a 10 + J = 9999) {K : Int → (Nat → Nat → Int) → (Nat → Nat → Int) → Prop}
    (hK : ∀ gc g', RSc gc (rit true (g 137) n m a J).1 → AF g g' → RSc g' a → (∀ i, i ≤ J → RI (g 137) n m a i) → K (rit true (g 137) n m a J).2.1 gc g') : cV (d + 8) m_X7_saveTo [(vR 3), (vR 120)] dd sh g (fun g2 => cI (d + 8) m_X5_rehearse [(vR 118), (vI (N : Int))] dd sh g2 (fun r3 g4 => cV (d + 8) m_X7_restoreFrom [(vR 3), (vR 120)] dd sh g4 (fun g6 => K r3 g4 g6))) := by
  have en := hS.n
  have em := hS.m
  refine s_X7_saveTo (p1 := 120) (by omega) (T_120 dd) fun g2 f2 sv => ?_
  have e7 : g2 137 = g 137 := f2 137 (by decide)
  have hS2 : RSc g2 a := rsR hS fun q h1 h2 => f2 q (by omega)
  refine s_X5_rehearse hS2 (RHc.row2 hH fun q hq => f2 q (by omega)) (by rw [e7]; exact hX.fr rfl fun q hq => f2 q (by omega)) hn hm hN hJ hJ1 hJ2 fun g4 f4 hS4 hRI => ?_
  rw [e7] at hS4 hRI ⊢
  have zz : ∀ k, k < 10 ∨ (14 ≤ k ∧ k < 2524) → (∀ p, p < 6 → k ≠ 19 + 7 * p) → (∀ c, c < 7 → k ≠ 61 + 4 * c) → (rit true (g 137) n m a J).1 k = a k := fun k hk h19 h61 => rit_lo (by omega) (by omega) hk h19 h61 J
  exact s_back hS f2 sv f4 hS4 (zz 0 (by omega) (fun p hp => by omega) (fun c hc => by omega)) (zz 1 (by omega) (fun p hp => by omega) (fun c hc => by omega)) (fun p hp => ⟨zz _ (by omega) (fun p hp => by omega) (fun c hc => by omega), zz _ (by omega) (fun p hp => by omega) (fun c hc => by omega), zz _ (by omega) (fun p hp => by omega) (fun c hc => by omega)⟩) (fun c hc => ⟨zz _ (by omega) (fun p hp => by omega) (fun c hc => by omega), zz _ (by omega) (fun p hp => by omega) (fun c hc => by omega)⟩) fun g6 f6 hS6 => hK g4 g6 hS4 f6 hS6 hRI
theorem Inv.af {dd : List (Nat × Nat)} {sh : Nat → Nat → Nat} {g g1 g3 : Nat → Nat → Int} (hI : Inv dd sh g) (f : AF g g1) (hS : RSc g1 (g 135)) (r : RefScr g1 g3) : Inv dd sh g3 := by
  have e : g3 135 = g 135 := by rw [r.1 135 (by omega), f 135 (by decide) (by decide) (by decide) (by decide) (by decide)]
  refine hI.step (g1 := g1) (fun q hq => f q (by omega) (by omega) (by omega) (by omega) (by omega)) r.fr (by rw [e]; exact hS) ?_ ?_ (by rw [e])
  · rw [e]
    have fr : ∀ q, 12 ≤ q ∧ q ≤ 19 → g1 q = g q := fun q hq => f q (by omega) (by omega) (by omega) (by omega) (by omega)
    unfold RNc
    rw [fr 12 (by decide), fr 13 (by decide), fr 14 (by decide), fr 16 (by decide), fr 17 (by decide), fr 18 (by decide), fr 19 (by decide)]
    exact hI.nn
  · rw [e]
    exact RHc.row2 hI.h fun q hq => f q (by omega) (by omega) (by omega) (by omega) (by omega)
theorem Jof (x : Int) (N : Nat) (h : 0 ≤ x ∧ x ≤ 9999) : ∃ J : Nat, J ≤ N ∧ x + J ≤ 9999 ∧ (J < N → x + J = 9999) := ⟨min N (9999 - x).toNat, by omega, by omega, by omega⟩
