-- taking back
def restR (s ts r s' se' ha' bk' : Nat → Int) : Prop := (∀ k, k ≠ 2 → k ≠ 8 → k ≠ 9 → k ≠ 12 → k ≠ 13 → k ≠ 14 → k ≠ 16 → k ≠ 17 → s' k = s k) ∧ (s' 8 = r 1 ∧ s' 9 = r 2 ∧ s' 2 = r 3 ∧ s' 12 = r 4 ∧ s' 13 = r 5 ∧ s' 14 = r 6 ∧ s' 16 = r 7 ∧ s' 17 = r 8) ∧
  (∀ p : Nat, p < 6 → (((p : Int) < r 0 → se' p = r (10 + p) ∧ ha' p = r (16 + p)) ∧ (r 0 ≤ (p : Int) → se' p = ts p ∧ ha' p = 0))) ∧ ∀ i, i < 40 → bk' i = r (22 + i)
theorem s_X7_restoreFrom {d : Nat} {dd : List (Nat × Nat)} {sh : Nat → Nat → Nat} {g : Nat → Nat → Int} {K : (Nat → Nat → Int) → Prop} {p1 : Nat} (hp : p1 ≠ 0 ∧ p1 ≠ 3 ∧ p1 ≠ 5 ∧ p1 ≠ 6 ∧ p1 ≠ 7 ∧ p1 ≠ 10) (hT : (T0 ++ dyn dd)[p1]? = some (0, 62)) (hr : i32 (g p1 0)) (hK : ∀ g', (∀ q, q ≠ 3 → q ≠ 5 → q ≠ 7 → q ≠ 10 → g' q = g q) → restR (g 3) (g 6) (g p1) (g' 3) (g' 5) (g' 7) (g' 10) → K g') : cV (d + 1) m_X7_restoreFrom [(vR 3), (vR p1)] dd sh g K := by
  obtain ⟨hp0, hp3, hp5, hp6, hp7, hp10⟩ := hp
  refine mkV (ls := [some (vR 3), some (vR p1), none, none]) rfl rfl rfl rfl rfl (r_X7_restoreFrom_0 ?_)
  rw [lenT hT]
  simp only [up_off hp3]
  have h141 : ∀ g', (∀ q, q ≠ 3 → q ≠ 5 → q ≠ 7 → q ≠ 10 → g' q = g q) → (∀ k, k ≠ 2 → k ≠ 8 → k ≠ 9 → k ≠ 12 → k ≠ 13 → k ≠ 14 → k ≠ 16 → k ≠ 17 → g' 3 k = g 3 k) → (g' 3 8 = g p1 1 ∧ g' 3 9 = g p1 2 ∧ g' 3 2 = g p1 3 ∧ g' 3 12 = g p1 4 ∧ g' 3 13 = g p1 5 ∧ g' 3 14 = g p1 6 ∧ g' 3 16 = g p1 7 ∧ g' 3 17 = g p1 8) → (∀ p : Nat, p < 6 → (((p : Int) < g p1 0 → g' 5 p = g p1 (10 + p) ∧ g' 7 p = g p1 (16 + p)) ∧ (g p1 0 ≤ (p : Int) → g' 5 p = g 6 p ∧ g' 7 p = 0))) → rV d m_X7_restoreFrom 141 [some (vR 3), some (vR p1), some (vI 0), none] [] dd sh (g') K := by
    intro g' h1 h2 h3 h4
    refine loop (P := fun k => ∀ g', (∀ q, q ≠ 3 → q ≠ 5 → q ≠ 7 → q ≠ 10 → g' q = g q) → (∀ k, k ≠ 2 → k ≠ 8 → k ≠ 9 → k ≠ 12 → k ≠ 13 → k ≠ 14 → k ≠ 16 → k ≠ 17 → g' 3 k = g 3 k) → (g' 3 8 = g p1 1 ∧ g' 3 9 = g p1 2 ∧ g' 3 2 = g p1 3 ∧ g' 3 12 = g p1 4 ∧ g' 3 13 = g p1 5 ∧ g' 3 14 = g p1 6 ∧ g' 3 16 = g p1 7 ∧ g' 3 17 = g p1 8) → (∀ p : Nat, p < 6 → (((p : Int) < g p1 0 → g' 5 p = g p1 (10 + p) ∧ g' 7 p = g p1 (16 + p)) ∧ (g p1 0 ≤ (p : Int) → g' 5 p = g 6 p ∧ g' 7 p = 0))) → (∀ i, i < k → g' 10 i = g p1 (22 + i)) → rV d m_X7_restoreFrom 141 [some (vR 3), some (vR p1), some (vI ((k : Int))), none] [] dd sh (g') K) (n := 40) ?_ ?_ 0 (by omega) g' h1 h2 h3 h4 (fun i hi => absurd hi (by omega))
    · intro g' h1 h2 h3 h4 h5
      exact r_X7_restoreFrom_141 ⟨⟨by omega, by omega⟩, fun _ => hK g' h1 ⟨h2, h3, h4, h5⟩, fun h => absurd h (by omega)⟩
    · intro k hk ih g' h1 h2 h3 h4 h5
      have hh := ih (up g' 10 k (g' p1 (22 + k))) (fun q hq3 hq5 hq7 hq10 => by rw [up_off hq10, h1 q hq3 hq5 hq7 hq10]) h2 h3 h4 (fun i hi => by
        by_cases hik : i = k
        · subst hik; rw [up_at, if_pos rfl, h1 p1 hp3 hp5 hp7 hp10]
        · rw [up_at, if_neg hik]; exact h5 i (by omega))
      refine r_X7_restoreFrom_141 ?_
      rw [lenT hT, show (22 + (k : Int)).toNat = 22 + k by omega, show ((k : Int)).toNat = k from rfl]
      exact ⟨⟨by omega, by omega⟩, fun h => absurd h (by omega), fun _ => ⟨arT hp0 hT, by omega, by omega, by omega, by omega, hh⟩⟩
  have h69 : ∀ g', (∀ q, q ≠ 3 → q ≠ 5 → q ≠ 7 → q ≠ 10 → g' q = g q) → (∀ k, k ≠ 2 → k ≠ 8 → k ≠ 9 → k ≠ 12 → k ≠ 13 → k ≠ 14 → k ≠ 16 → k ≠ 17 → g' 3 k = g 3 k) → (g' 3 8 = g p1 1 ∧ g' 3 9 = g p1 2 ∧ g' 3 2 = g p1 3 ∧ g' 3 12 = g p1 4 ∧ g' 3 13 = g p1 5 ∧ g' 3 14 = g p1 6 ∧ g' 3 16 = g p1 7 ∧ g' 3 17 = g p1 8) → rV d m_X7_restoreFrom 69 [some (vR 3), some (vR p1), some (vI 0), none] [] dd sh (g') K := by
    intro g' h1 h2 h3
    refine loop (P := fun k => ∀ g', (∀ q, q ≠ 3 → q ≠ 5 → q ≠ 7 → q ≠ 10 → g' q = g q) → (∀ k, k ≠ 2 → k ≠ 8 → k ≠ 9 → k ≠ 12 → k ≠ 13 → k ≠ 14 → k ≠ 16 → k ≠ 17 → g' 3 k = g 3 k) → (g' 3 8 = g p1 1 ∧ g' 3 9 = g p1 2 ∧ g' 3 2 = g p1 3 ∧ g' 3 12 = g p1 4 ∧ g' 3 13 = g p1 5 ∧ g' 3 14 = g p1 6 ∧ g' 3 16 = g p1 7 ∧ g' 3 17 = g p1 8) → (∀ p : Nat, p < k → (((p : Int) < g p1 0 → g' 5 p = g p1 (10 + p) ∧ g' 7 p = g p1 (16 + p)) ∧ (g p1 0 ≤ (p : Int) → g' 5 p = g 6 p ∧ g' 7 p = 0))) → rV d m_X7_restoreFrom 69 [some (vR 3), some (vR p1), some (vI ((k : Int))), none] [] dd sh (g') K) (n := 6) ?_ ?_ 0 (by omega) g' h1 h2 h3 (fun i hi => absurd hi (by omega))
    · intro g' h1 h2 h3 h4
      exact r_X7_restoreFrom_69 ⟨⟨by omega, by omega⟩, fun _ => h141 g' h1 h2 h3 h4, fun h => absurd h (by omega)⟩
    · intro k hk ih g' h1 h2 h3 h4
      have e1 := h1 p1 hp3 hp5 hp7 hp10
      have e6 := h1 6 (by omega) (by omega) (by omega) (by omega)
      refine r_X7_restoreFrom_69 ?_
      rw [lenT hT, show (10 + (k : Int)).toNat = 10 + k by omega, show (16 + (k : Int)).toNat = 16 + k by omega, show ((k : Int)).toNat = k from rfl, up_off hp5, e1, e6]
      refine ⟨⟨by omega, by omega⟩, fun h => absurd h (by omega), fun _ => ⟨arT hp0 hT, by omega, hr, fun hlt => ⟨by omega, by omega, by omega, by omega, by omega, by omega, ?_⟩, fun hge => ⟨by omega, by omega, ?_⟩⟩⟩
      · refine ih _ (fun q hq3 hq5 hq7 hq10 => by rw [up_off hq7, up_off hq5, h1 q hq3 hq5 hq7 hq10]) h2 h3 (fun p hp => ?_)
        by_cases hpk : p = k
        · subst hpk
          exact ⟨fun _ => by simp [up], fun h => absurd h (by omega)⟩
        · have := h4 p (by omega)
          simp [up, hpk]; exact this
      · refine ih _ (fun q hq3 hq5 hq7 hq10 => by rw [up_off hq7, up_off hq5, h1 q hq3 hq5 hq7 hq10]) h2 h3 (fun p hp => ?_)
        by_cases hpk : p = k
        · subst hpk
          exact ⟨fun h => absurd h (by omega), fun _ => by simp [up]⟩
        · have := h4 p (by omega)
          simp [up, hpk]; exact this
  refine ⟨arT hp0 hT, ⟨by decide, by decide⟩, fun _ => ⟨by decide, by decide, by decide, by decide, by decide, by decide, by decide, by decide, ?_⟩, fun h => absurd h (by decide)⟩
  refine h69 _ (fun q hq3 hq5 hq7 hq10 => by repeat rw [up_off hq3]) (fun k a1 a2 a3 a4 a5 a6 a7 a8 => by simp [up, a1, a2, a3, a4, a5, a6, a7, a8]) ?_
  simp [up]
/-- what undo does to the reference's cells: those kept from x on come back -/
def undoB (a b : Nat → Int) (x : Nat) : Prop := (∀ k, (k ≤ 3 ∨ (5 ≤ k ∧ k < 10) ∨ (14 ≤ k ∧ k < 18) ∨ (86 ≤ k ∧ k < 2524)) → b k = a k) ∧ b 4 = a 4 - 1 ∧ (∀ k, k < 4 → b (10 + k) = a (x + 2 + k)) ∧
  (∀ p, p < 6 → b (16 + 7 * p) = a (16 + 7 * p) ∧ b (17 + 7 * p) = a (17 + 7 * p) ∧ b (21 + 7 * p) = a (21 + 7 * p) ∧ b (22 + 7 * p) = a (22 + 7 * p)) ∧ (∀ c, c < 7 → b (58 + 4 * c) = a (58 + 4 * c) ∧ b (59 + 4 * c) = a (59 + 4 * c)) ∧
  (∀ p : Nat, p < 6 → (p : Int) < a 0 → (((p : Int) < a x → b (18 + 7 * p) = a (x + 6 + 3 * p) ∧ b (19 + 7 * p) = a (x + 7 + 3 * p) ∧ b (20 + 7 * p) = a (x + 8 + 3 * p)) ∧ (a x ≤ (p : Int) → b (18 + 7 * p) = a (21 + 7 * p) ∧ b (19 + 7 * p) = 0 ∧ b (20 + 7 * p) = 1))) ∧
  (∀ c : Nat, c < 7 → (c : Int) < a 1 → ∀ k, k < 2 → (((c : Int) < a (x + 1) → b (60 + 4 * c + k) = a (x + 24 + 2 * c + k)) ∧ (a (x + 1) ≤ (c : Int) → b (60 + 4 * c + k) = 0))) ∧ ∀ i, i < 40 → b (2524 + i) = a (x + 38 + i)
theorem RS.undo {s nv se ts ha he le bk a b r s' se' ha' bk' : Nat → Int} {x : Nat} (H : RS s nv se ts ha he le bk a) (hr : RT r a x) (hb : undoB a b x) (h : restR s ts r s' se' ha' bk') : RS s' nv se' ts ha' he le bk' b := by
  obtain ⟨r1, ⟨r8, r9, r2, r12, r13, r14, r16, r17⟩, rp, rb⟩ := h
  obtain ⟨u1, u2, u3, u4, u5, u6, u7, u8⟩ := hb
  unfold RT at hr
  obtain ⟨g1, g2, g3, g4, g5, g6, g7, g8, g9, g10, g11, g12, g13, g14⟩ := hr
  have q0 := u3 0 (by omega)
  have q1 := u3 1 (by omega)
  have q2 := u3 2 (by omega)
  have q3 := u3 3 (by omega)
  simp only [Nat.add_zero, Nat.add_assoc, Nat.reduceAdd] at q0 q1 q2 q3
  refine RS.chg H (u1 0 (by omega)) (u1 1 (by omega)) (r1 0 (by omega) (by omega) (by omega) (by omega) (by omega) (by omega) (by omega) (by omega)) (r1 7 (by omega) (by omega) (by omega) (by omega) (by omega) (by omega) (by omega) (by omega)) (r1 1 (by omega) (by omega) (by omega) (by omega) (by omega) (by omega) (by omega) (by omega)) (by omega) (by omega) (by omega) (by omega) (by omega) (by omega) (fun p hp hq => ?_) (fun p hp => ?_) (fun p hp hq => ?_) (fun c hc hq => ?_) (fun c hc hq => ?_) (fun i hi => ?_) (fun p hp hq => ⟨(u4 p hp).1, (u4 p hp).2.1, (u4 p hp).2.2.1⟩) (fun c hc hq => u5 c hc)
  · have hpp := H.pp p hp hq
    rw [r2]
    by_cases hpx : (p : Int) < a x
    · obtain ⟨e1, e2⟩ := (rp p hp).1 (by omega)
      obtain ⟨e3, e4, e5⟩ := (u6 p hp hq).1 hpx
      rw [e1, e2, e3, e4, e5]; exact g9 p hp hpx
    · obtain ⟨e1, e2⟩ := (rp p hp).2 (by omega)
      obtain ⟨e3, e4, e5⟩ := (u6 p hp hq).2 (by omega)
      rw [e1, e2, e3, e4, e5, g11 p hp (by omega)]; exact ⟨hpp.2.2.2.2.2, rfl, rfl⟩
  · have hpb := H.pb p hp
    by_cases hpx : (p : Int) < r 0
    · obtain ⟨e1, e2⟩ := (rp p hp).1 hpx
      rw [e1, e2]; exact g10 p hp
    · obtain ⟨e1, e2⟩ := (rp p hp).2 (by omega)
      rw [e1, e2]; exact ⟨hpb.2.2.1, by omega, by omega⟩
  · rw [r2, ((rp p hp).2 (by omega)).2]
    exact ⟨g11 p hp (by omega), rfl⟩
  · rw [r8, r9]
    have k0 := u7 c hc hq 0 (by omega)
    have k1 := u7 c hc hq 1 (by omega)
    rw [show 60 + 4 * c + 0 = 60 + 4 * c from rfl, show x + 24 + 2 * c + 0 = x + 24 + 2 * c from rfl] at k0
    rw [show 60 + 4 * c + 1 = 61 + 4 * c by omega, show x + 24 + 2 * c + 1 = x + 25 + 2 * c by omega] at k1
    by_cases hcx : (c : Int) < a (x + 1)
    · rw [k0.1 hcx, k1.1 hcx]; exact g12 c hc hcx
    · rw [k0.2 (by omega), k1.2 (by omega)]; exact g13 c hc (by omega)
  · rw [r8, r9]; exact g13 c hc (by omega)
  · have hb9 := g14 i (by omega)
    rw [r16, rb _ (by omega), u8 i (by omega)]; exact hb9
theorem RH.undo {h h' a b : Nat → Int} {row : Nat → Nat → Int} {x : Nat} (hh : RH h row a) (hb : undoB a b x) (h0 : 0 < a 4) (e : ∀ k, k ≠ 4 → h' k = h k) (e4 : h' 4 = h 4 - 1) : RH h' row b := by
  have hst := hh.st
  obtain ⟨u1, u2, -⟩ := hb
  refine ⟨by omega, ?_, ?_, ?_, fun j hj => ?_⟩
  · rw [e 3 (by omega)]; exact hh.el
  · rw [e 6 (by omega), u1 2 (by omega)]; exact hh.tx
  · rw [e 7 (by omega), u1 3 (by omega), u1 2 (by omega)]; exact hh.ru
  · rw [e 3 (by omega)]
    exact (hh.rt j (by omega)).fr (fun k h1 h2 => u1 k (by omega)) (by rw [u1 0 (by omega)]; omega) (by rw [u1 1 (by omega)]; omega)
/-- what undo has laid so far -/
def udI (g g' : Nat → Nat → Int) (A : Nat → Int) (x m2 mp mc kc mb : Nat) : Prop := (∀ q, q ≠ 135 → g' q = g q) ∧ (∀ k, (k < 10 ∨ (14 ≤ k ∧ k < 18) ∨ (86 ≤ k ∧ k < 2524)) → g' 135 k = A k) ∧ (∀ k, k < m2 → g' 135 (10 + k) = A (x + 2 + k)) ∧
  (∀ p, p < 6 → g' 135 (16 + 7 * p) = A (16 + 7 * p) ∧ g' 135 (17 + 7 * p) = A (17 + 7 * p) ∧ g' 135 (21 + 7 * p) = A (21 + 7 * p) ∧ g' 135 (22 + 7 * p) = A (22 + 7 * p)) ∧ (∀ c, c < 7 → g' 135 (58 + 4 * c) = A (58 + 4 * c) ∧ g' 135 (59 + 4 * c) = A (59 + 4 * c)) ∧
  (∀ p : Nat, p < mp → (((p : Int) < A x → g' 135 (18 + 7 * p) = A (x + 6 + 3 * p) ∧ g' 135 (19 + 7 * p) = A (x + 7 + 3 * p) ∧ g' 135 (20 + 7 * p) = A (x + 8 + 3 * p)) ∧ (A x ≤ (p : Int) → g' 135 (18 + 7 * p) = A (21 + 7 * p) ∧ g' 135 (19 + 7 * p) = 0 ∧ g' 135 (20 + 7 * p) = 1))) ∧
  (∀ c : Nat, c < mc → ∀ k, k < 2 → (((c : Int) < A (x + 1) → g' 135 (60 + 4 * c + k) = A (x + 24 + 2 * c + k)) ∧ (A (x + 1) ≤ (c : Int) → g' 135 (60 + 4 * c + k) = 0))) ∧
  (∀ k, k < kc → (((mc : Int) < A (x + 1) → g' 135 (60 + 4 * mc + k) = A (x + 24 + 2 * mc + k)) ∧ (A (x + 1) ≤ (mc : Int) → g' 135 (60 + 4 * mc + k) = 0))) ∧ ∀ i, i < mb → g' 135 (2524 + i) = A (x + 38 + i)
section UD
variable {g g' : Nat → Nat → Int} {A : Nat → Int} {x m2 mp mc kc mb : Nat}
theorem udI.a2 (h : udI g g' A x m2 0 0 0 0) (hm : m2 < 4) {v : Int} (hv : v = A (x + 2 + m2)) : udI g (up g' 135 (10 + m2) v) A x (m2 + 1) 0 0 0 0 := by
  obtain ⟨a1, a2, a3, a4, a5, -⟩ := h
  refine ⟨fun q hq => by rw [up_off hq, a1 q hq], fun k hk => ?_, fun k hk => ?_, fun p hp => ?_, fun c hc => ?_, fun p hp => absurd hp (by omega), fun p hp => absurd hp (by omega), fun p hp => absurd hp (by omega), fun p hp => absurd hp (by omega)⟩
  · rw [up_at, if_neg (by omega)]; exact a2 k hk
  · by_cases h : k = m2
    · subst h; rw [up_at, if_pos rfl]; exact hv
    · rw [up_at, if_neg (by omega)]; exact a3 k (by omega)
  · simp only [up_at]; rw [if_neg (by omega), if_neg (by omega), if_neg (by omega), if_neg (by omega)]; exact a4 p hp
  · simp only [up_at]; rw [if_neg (by omega), if_neg (by omega)]; exact a5 c hc
theorem udI.ap (h : udI g g' A x 4 mp 0 0 0) (hm : mp < 6) {v1 v2 v3 : Int} (hv : ((mp : Int) < A x → v1 = A (x + 6 + 3 * mp) ∧ v2 = A (x + 7 + 3 * mp) ∧ v3 = A (x + 8 + 3 * mp)) ∧ (A x ≤ (mp : Int) → v1 = A (21 + 7 * mp) ∧ v2 = 0 ∧ v3 = 1)) : udI g (up (up (up g' 135 (18 + 7 * mp) v1) 135 (19 + 7 * mp) v2) 135 (20 + 7 * mp) v3) A x 4 (mp + 1) 0 0 0 := by
  obtain ⟨a1, a2, a3, a4, a5, a6, -⟩ := h
  refine ⟨fun q hq => by rw [up_off hq, up_off hq, up_off hq, a1 q hq], fun k hk => ?_, fun k hk => ?_, fun p hp => ?_, fun c hc => ?_, fun p hp => ?_, fun p hp => absurd hp (by omega), fun p hp => absurd hp (by omega), fun p hp => absurd hp (by omega)⟩
  · rw [up_at, if_neg (by omega), up_at, if_neg (by omega), up_at, if_neg (by omega)]; exact a2 k hk
  · rw [up_at, if_neg (by omega), up_at, if_neg (by omega), up_at, if_neg (by omega)]; exact a3 k hk
  · have := a4 p hp
    refine ⟨?_, ?_, ?_, ?_⟩ <;> (rw [up_at, if_neg (by omega), up_at, if_neg (by omega), up_at, if_neg (by omega)])
    · exact this.1
    · exact this.2.1
    · exact this.2.2.1
    · exact this.2.2.2
  · have := a5 c hc
    refine ⟨?_, ?_⟩ <;> (rw [up_at, if_neg (by omega), up_at, if_neg (by omega), up_at, if_neg (by omega)])
    · exact this.1
    · exact this.2
  · by_cases h : p = mp
    · subst h
      rw [up_at (i := 20 + 7 * p) (j := 18 + 7 * p), if_neg (by omega), up_at (i := 19 + 7 * p) (j := 18 + 7 * p), if_neg (by omega), up_at (j := 18 + 7 * p), if_pos rfl, up_at (i := 20 + 7 * p) (j := 19 + 7 * p), if_neg (by omega), up_at (j := 19 + 7 * p), if_pos rfl, up_at (j := 20 + 7 * p), if_pos rfl]
      exact hv
    · rw [up_at (i := 20 + 7 * mp) (j := 18 + 7 * p), if_neg (by omega), up_at (i := 19 + 7 * mp) (j := 18 + 7 * p), if_neg (by omega), up_at (i := 18 + 7 * mp) (j := 18 + 7 * p), if_neg (by omega), up_at (i := 20 + 7 * mp) (j := 19 + 7 * p), if_neg (by omega), up_at (i := 19 + 7 * mp) (j := 19 + 7 * p), if_neg (by omega), up_at (i := 18 + 7 * mp) (j := 19 + 7 * p), if_neg (by omega), up_at (i := 20 + 7 * mp) (j := 20 + 7 * p), if_neg (by omega), up_at (i := 19 + 7 * mp) (j := 20 + 7 * p), if_neg (by omega), up_at (i := 18 + 7 * mp) (j := 20 + 7 * p), if_neg (by omega)]
      exact a6 p (by omega)
theorem udI.ac (h : udI g g' A x 4 mp mc kc 0) (hp6 : mp ≤ 6) (hm : mc < 7) (hk : kc < 2) {v : Int} (hv : ((mc : Int) < A (x + 1) → v = A (x + 24 + 2 * mc + kc)) ∧ (A (x + 1) ≤ (mc : Int) → v = 0)) : udI g (up g' 135 (60 + 4 * mc + kc) v) A x 4 mp mc (kc + 1) 0 := by
  obtain ⟨a1, a2, a3, a4, a5, a6, a7, a8, -⟩ := h
  refine ⟨fun q hq => by rw [up_off hq, a1 q hq], fun k hk => ?_, fun k hk => ?_, fun p hp => ?_, fun c hc => ?_, fun p hp => ?_, fun c hc k hk => ?_, fun k hk => ?_, fun p hp => absurd hp (by omega)⟩
  · rw [up_at, if_neg (by omega)]; exact a2 k hk
  · rw [up_at, if_neg (by omega)]; exact a3 k hk
  · simp only [up_at]; rw [if_neg (by omega), if_neg (by omega), if_neg (by omega), if_neg (by omega)]; exact a4 p hp
  · simp only [up_at]; rw [if_neg (by omega), if_neg (by omega)]; exact a5 c hc
  · simp only [up_at]; rw [if_neg (by omega), if_neg (by omega), if_neg (by omega)]; exact a6 p hp
  · rw [up_at, if_neg (by omega)]; exact a7 c hc k hk
  · by_cases h : k = kc
    · subst h; rw [up_at, if_pos rfl]; exact hv
    · rw [up_at, if_neg (by omega)]; exact a8 k (by omega)
theorem udI.bc (h : udI g g' A x 4 mp mc 2 0) : udI g g' A x 4 mp (mc + 1) 0 0 := by
  obtain ⟨a1, a2, a3, a4, a5, a6, a7, a8, a9⟩ := h
  refine ⟨a1, a2, a3, a4, a5, a6, fun c hc k hk => ?_, fun k hk => absurd hk (by omega), a9⟩
  by_cases h : c = mc
  · subst h; exact a8 k hk
  · exact a7 c (by omega) k hk
theorem udI.ab (h : udI g g' A x 4 mp mc 0 mb) (hp6 : mp ≤ 6) (hm : mc ≤ 7) (hb : mb < 40) {v : Int} (hv : v = A (x + 38 + mb)) : udI g (up g' 135 (2524 + mb) v) A x 4 mp mc 0 (mb + 1) := by
  obtain ⟨a1, a2, a3, a4, a5, a6, a7, a8, a9⟩ := h
  refine ⟨fun q hq => by rw [up_off hq, a1 q hq], fun k hk => ?_, fun k hk => ?_, fun p hp => ?_, fun c hc => ?_, fun p hp => ?_, fun c hc k hk => ?_, fun k hk => absurd hk (by omega), fun i hi => ?_⟩
  · rw [up_at, if_neg (by omega)]; exact a2 k hk
  · rw [up_at, if_neg (by omega)]; exact a3 k hk
  · simp only [up_at]; rw [if_neg (by omega), if_neg (by omega), if_neg (by omega), if_neg (by omega)]; exact a4 p hp
  · simp only [up_at]; rw [if_neg (by omega), if_neg (by omega)]; exact a5 c hc
  · simp only [up_at]; rw [if_neg (by omega), if_neg (by omega), if_neg (by omega)]; exact a6 p hp
  · rw [up_at, if_neg (by omega)]; exact a7 c hc k hk
  · by_cases h : i = mb
    · subst h; rw [up_at, if_pos rfl]; exact hv
    · rw [up_at, if_neg (by omega)]; exact a9 i (by omega)
end UD
theorem s_X12_undo {d : Nat} {dd : List (Nat × Nat)} {sh : Nat → Nat → Nat} {g : Nat → Nat → Int} {K : Int → (Nat → Nat → Int) → Prop} {n : Nat} (hA : AB (g 135)) (hn : g 135 4 = n) (hn2 : 0 < n ∧ n ≤ 30) (hx : i32 (g 135 (184 + 78 * (n - 1))) ∧ i32 (g 135 (184 + 78 * (n - 1) + 1))) (hK : ∀ g', (∀ q, q ≠ 135 → g' q = g q) → undoB (g 135) (g' 135) (184 + 78 * (n - 1)) → K ((n : Int) - 1) g') : cI (d + 2) m_X12_undo [(vR 134)] dd sh g K := by
  obtain ⟨x, ex⟩ : ∃ x, x = 184 + 78 * (n - 1) := ⟨_, rfl⟩
  rw [← ex] at hK hx
  have hxb : 184 ≤ x ∧ x + 78 ≤ 2524 := by omega
  have em := hA.n
  have es := hA.m
  obtain ⟨np, hnp⟩ := Int.eq_ofNat_of_zero_le em.1
  obtain ⟨nc, hnc⟩ := Int.eq_ofNat_of_zero_le es.1
  refine mkI (ls := [some (vR 134), none, none, none]) rfl rfl rfl rfl rfl (r_X12_undo_0 ?_)
  rw [hn]
  refine ⟨⟨by omega, by omega⟩, fun _ => ?_, fun h => absurd h (by omega)⟩
  have hA0 : ∀ k, k ≠ 4 → (up g 135 4 ((n : Int) - 1)) 135 k = g 135 k := fun k hk => by rw [up_at, if_neg hk]
  have hA4 : (up g 135 4 ((n : Int) - 1)) 135 4 = (n : Int) - 1 := by rw [up_at, if_pos rfl]
  have fin : ∀ g', udI g g' ((up g 135 4 ((n : Int) - 1)) 135) x 4 np nc 0 40 → K (g' 135 4) g' := by
    intro g' ⟨a1, a2, a3, a4, a5, a6, a7, a8, a9⟩
    rw [a2 4 (by omega), hA4]
    refine hK g' a1 ⟨fun k hk => ?_, ?_, fun k hk => ?_, fun p hp => ?_, fun c hc => ?_, fun p hp hq => ?_, fun c hc hq k hk => ?_, fun i hi => ?_⟩
    · rw [a2 k (by omega), hA0 k (by omega)]
    · rw [a2 4 (by omega), hA4, hn]
    · rw [a3 k hk, hA0 _ (by omega)]
    · have := a4 p hp
      rw [hA0 (16 + 7 * p) (by omega), hA0 (17 + 7 * p) (by omega), hA0 (21 + 7 * p) (by omega), hA0 (22 + 7 * p) (by omega)] at this
      exact this
    · have := a5 c hc
      rw [hA0 (58 + 4 * c) (by omega), hA0 (59 + 4 * c) (by omega)] at this
      exact this
    · have := a6 p (by omega)
      rw [hA0 x (by omega), hA0 (x + 6 + 3 * p) (by omega), hA0 (x + 7 + 3 * p) (by omega), hA0 (x + 8 + 3 * p) (by omega), hA0 (21 + 7 * p) (by omega)] at this
      exact this
    · have := a7 c (by omega) k hk
      rw [hA0 (x + 1) (by omega), hA0 (x + 24 + 2 * c + k) (by omega)] at this
      exact this
    · rw [a9 i hi, hA0 _ (by omega)]
  generalize hAA : (up g 135 4 ((n : Int) - 1)) 135 = A at fin hA0 hA4
  have h259 : ∀ g', udI g g' A x 4 np nc 0 0 → rI (d + 1) m_X12_undo 259 [some (vR 134), some (vI ((x : Int))), some (vI 0), none] [] dd sh (g') K := by
    refine loop (P := fun k => ∀ g', udI g g' A x 4 np nc 0 k → rI (d + 1) m_X12_undo 259 [some (vR 134), some (vI ((x : Int))), some (vI ((k : Int))), none] [] dd sh (g') K) (n := 40) ?_ ?_ 0 (by omega)
    · intro g' h
      exact r_X12_undo_259 ⟨⟨by omega, by omega⟩, fun _ => fin g' h, fun h => absurd h (by omega)⟩
    · intro k hk ih g' h
      have hh := ih _ (h.ab (by omega) (by omega) hk (h.2.1 (x + 38 + k) (by omega)))
      refine r_X12_undo_259 ?_
      rw [show (2524 + (k : Int)).toNat = 2524 + k by omega, show (((x : Int) + 38) + (k : Int)).toNat = x + 38 + k by omega]
      exact ⟨⟨by omega, by omega⟩, fun h => absurd h (by omega), fun _ => ⟨by omega, by omega, by omega, by omega, hh⟩⟩
  have h189 : ∀ g', udI g g' A x 4 np 0 0 0 → rI (d + 1) m_X12_undo 189 [some (vR 134), some (vI ((x : Int))), some (vI 0), none] [] dd sh (g') K := by
    refine loop (P := fun k => ∀ g', udI g g' A x 4 np k 0 0 → rI (d + 1) m_X12_undo 189 [some (vR 134), some (vI ((x : Int))), some (vI ((k : Int))), none] [] dd sh (g') K) (n := nc) ?_ ?_ 0 (by omega)
    · intro g' h
      have e1 : g' 135 1 = nc := by rw [h.2.1 1 (by omega), hA0 1 (by omega), hnc]
      refine r_X12_undo_189 ?_
      rw [e1]
      exact ⟨⟨by omega, by omega⟩, ⟨by omega, by omega⟩, fun _ => h259 g' h, fun h => absurd h (by omega)⟩
    · intro k hk ih g' h
      have e1 : g' 135 1 = nc := by rw [h.2.1 1 (by omega), hA0 1 (by omega), hnc]
      refine r_X12_undo_189 ?_
      rw [e1]
      refine ⟨⟨by omega, by omega⟩, ⟨by omega, by omega⟩, fun h => absurd h (by omega), fun _ => ?_⟩
      refine loop (P := fun j => ∀ g', udI g g' A x 4 np k j 0 → rI (d + 1) m_X12_undo 201 [some (vR 134), some (vI ((x : Int))), some (vI ((k : Int))), some (vI ((j : Int)))] [] dd sh (g') K) (n := 2) ?_ ?_ 0 (by omega) g' h
      · intro g' h
        exact r_X12_undo_201 ⟨⟨by omega, by omega⟩, fun _ => ih g' h.bc, fun h => absurd h (by omega)⟩
      · intro j hj ihj g' h
        have ex1 : g' 135 (x + 1) = g 135 (x + 1) := by rw [h.2.1 (x + 1) (by omega), hA0 _ (by omega)]
        have eA : A (x + 1) = g 135 (x + 1) := hA0 _ (by omega)
        refine r_X12_undo_201 ?_
        rw [show (((x : Int) + 1)).toNat = x + 1 by omega, show ((((x : Int) + 24) + (2 * (k : Int))) + (j : Int)).toNat = x + 24 + 2 * k + j by omega, ex1]
        refine ⟨⟨by omega, by omega⟩, fun h => absurd h (by omega), fun _ => ⟨by omega, by omega, ⟨by omega, by omega⟩, hx.2, fun hge => ?_, fun hlt => ⟨by omega, by omega, ?_⟩⟩⟩
        · refine s_layI (j := 60 + 4 * k + j) (by omega) (by omega) ?_
          exact ihj _ (h.ac (by omega) (by omega) hj ⟨fun h => absurd h (by omega), fun _ => rfl⟩)
        · refine s_layI (j := 60 + 4 * k + j) (by omega) (by omega) ?_
          exact ihj _ (h.ac (by omega) (by omega) hj ⟨fun _ => h.2.1 _ (by omega), fun h => absurd h (by omega)⟩)
  have h69 : ∀ g', udI g g' A x 4 0 0 0 0 → rI (d + 1) m_X12_undo 69 [some (vR 134), some (vI ((x : Int))), some (vI 0), none] [] dd sh (g') K := by
    refine loop (P := fun k => ∀ g', udI g g' A x 4 k 0 0 0 → rI (d + 1) m_X12_undo 69 [some (vR 134), some (vI ((x : Int))), some (vI ((k : Int))), none] [] dd sh (g') K) (n := np) ?_ ?_ 0 (by omega)
    · intro g' h
      have e1 : g' 135 0 = np := by rw [h.2.1 0 (by omega), hA0 0 (by omega), hnp]
      refine r_X12_undo_69 ?_
      rw [e1]
      exact ⟨⟨by omega, by omega⟩, ⟨by omega, by omega⟩, fun _ => h189 g' h, fun h => absurd h (by omega)⟩
    · intro k hk ih g' h
      have e1 : g' 135 0 = np := by rw [h.2.1 0 (by omega), hA0 0 (by omega), hnp]
      have ex0 : g' 135 x = g 135 x := by rw [h.2.1 x (by omega), hA0 _ (by omega)]
      have eA : A x = g 135 x := hA0 _ (by omega)
      refine r_X12_undo_69 ?_
      rw [e1, show ((x : Int)).toNat = x from rfl, ex0, show (((x : Int) + 6) + (3 * (k : Int))).toNat = x + 6 + 3 * k by omega, show (((x : Int) + 7) + (3 * (k : Int))).toNat = x + 7 + 3 * k by omega, show (((x : Int) + 8) + (3 * (k : Int))).toNat = x + 8 + 3 * k by omega]
      refine ⟨⟨by omega, by omega⟩, ⟨by omega, by omega⟩, fun h => absurd h (by omega), fun _ => ⟨by omega, by omega, hx.1, fun hge => ?_, fun hlt => ⟨by omega, by omega, ?_⟩⟩⟩
      · refine s_get5 (by omega) (s_put2 (by omega) (s_put3 (by omega) (s_put4 (by omega) ?_)))
        exact ih _ (h.ap (by omega) ⟨fun h => absurd h (by omega), fun _ => ⟨(h.2.2.2.1 k (by omega)).2.2.1, rfl, rfl⟩⟩)
      · refine s_put2 (by omega) ⟨by omega, by omega, ?_⟩
        refine s_put3 (by omega) ⟨by omega, by omega, ?_⟩
        refine s_put4 (by omega) ?_
        refine ih _ (h.ap (by omega) ⟨fun _ => ⟨h.2.1 _ (by omega), ?_, ?_⟩, fun h => absurd h (by omega)⟩)
        · rw [up_at, if_neg (by omega)]; exact h.2.1 _ (by omega)
        · rw [up_at, if_neg (by omega), up_at, if_neg (by omega)]; exact h.2.1 _ (by omega)
  rw [show (184 + 78 * ((n : Int) - 1)) = (x : Int) by omega]
  refine loop (P := fun k => ∀ g', udI g g' A x k 0 0 0 0 → rI (d + 1) m_X12_undo 37 [some (vR 134), some (vI ((x : Int))), some (vI ((k : Int))), none] [] dd sh (g') K) (n := 4) ?_ ?_ 0 (by omega) _ ⟨fun q hq => up_off hq, fun k hk => by rw [hAA], fun k hk => absurd hk (by omega), fun p hp => by rw [hAA]; exact ⟨rfl, rfl, rfl, rfl⟩, fun c hc => by rw [hAA]; exact ⟨rfl, rfl⟩, fun k hk => absurd hk (by omega), fun k hk => absurd hk (by omega), fun k hk => absurd hk (by omega), fun k hk => absurd hk (by omega)⟩
  · intro g' h
    exact r_X12_undo_37 ⟨⟨by omega, by omega⟩, fun _ => h69 g' h, fun h => absurd h (by omega)⟩
  · intro k hk ih g' h
    have hh := ih _ (h.a2 hk (h.2.1 (x + 2 + k) (by omega)))
    refine r_X12_undo_37 ?_
    rw [show (10 + (k : Int)).toNat = 10 + k by omega, show (((x : Int) + 2) + (k : Int)).toNat = x + 2 + k by omega]
    exact ⟨⟨by omega, by omega⟩, fun h => absurd h (by omega), fun _ => ⟨by omega, by omega, by omega, by omega, hh⟩⟩
theorem sim_undo : S_undo := by
  intro dd sh g hI
  have hst := hI.h.st
  have hel := hI.h.el
  obtain ⟨n, hn⟩ := Int.eq_ofNat_of_zero_le hst.2.1
  have hA := hI.s.ab
  unfold SimI
  refine mkI (ls := [some (vR 1)]) rfl rfl rfl rfl rfl (r_X11_undo_0 ?_)
  by_cases h0 : n = 0
  · refine mkI (ls := [some (vR 2)]) rfl rfl rfl rfl rfl (r_X1_takeBack_0 ?_)
    refine ⟨⟨by omega, by omega⟩, fun h => absurd h (by omega), fun _ => ⟨⟨by decide, by decide⟩, fun _ => ?_, fun h => absurd rfl h⟩⟩
    refine mkI (ls := [some (vR 134), none, none, none]) rfl rfl rfl rfl rfl (r_X12_undo_0 ?_)
    exact ⟨⟨by omega, by omega⟩, fun h => absurd (show g 135 4 = 0 by omega) h, fun _ => ⟨rfl, ⟨by decide, by decide⟩, hI⟩⟩
  · have hrt := hI.h.rt (n - 1) (by omega)
    have hrt2 := hrt
    unfold RT at hrt2
    obtain ⟨t0, t1, -⟩ := hrt2
    have en := hA.n
    have em := hA.m
    refine mkI (ls := [some (vR 2)]) rfl rfl rfl rfl rfl (r_X1_takeBack_0 ?_)
    refine ⟨⟨by omega, by omega⟩, fun _ => ?_, fun h => absurd h (by omega)⟩
    refine s_X1_latestStep (by omega) fun r h1 h2 h3 => ⟨h2, h3, ?_⟩
    obtain ⟨z, rfl⟩ := Int.eq_ofNat_of_zero_le h2
    have ez : ((g 2 3 + ((n - 1 : Nat) : Int)) % 30).toNat = z := by omega
    rw [ez] at hrt t0
    have t0' : g (21 + z) 0 = g 135 (184 + 78 * (n - 1)) := t0.1
    rw [show ((z : Int)).toNat = z from rfl, rho20 sh z (by omega)]
    refine s_X7_restoreFrom (by omega) (T_rows dd z (by omega)) (by rw [t0']; omega) fun g1 f1 f2 => ?_
    refine ⟨⟨by decide, by decide⟩, fun h => absurd h (by decide), fun _ => ?_⟩
    have e24 : (up g1 2 4 (g1 2 4 - 1)) 2 4 = (n : Int) - 1 := by rw [up_at, if_pos rfl, f1 2 (by omega) (by omega) (by omega) (by omega)]; omega
    have e135 : (up g1 2 4 (g1 2 4 - 1)) 135 = g 135 := by rw [up_off (by omega), f1 135 (by omega) (by omega) (by omega) (by omega)]
    rw [e24]
    refine s_X12_undo (n := n) (by rw [e135]; exact hA) (by rw [e135]; exact hn) (by omega) (by rw [e135]; omega) fun g3 f3 f4 => ⟨rfl, ⟨by omega, by omega⟩, ?_⟩
    rw [e135] at f4
    have hr : RefFr (up g1 2 4 (g1 2 4 - 1)) g3 := ⟨fun q hq => f3 q (by omega), fun k hk => by rw [f3 134 (by omega)]⟩
    refine hI.step (g1 := up g1 2 4 (g1 2 4 - 1)) (fun q hq => by rw [up_off (by omega), f1 q (by omega) (by omega) (by omega) (by omega)]) hr ?_ ?_ ?_ ?_
    · have hu := RS.undo hI.s hrt f4 f2
      unfold RSc
      rw [up_off (q := 3) (by omega), up_off (q := 4) (by omega), up_off (q := 5) (by omega), up_off (q := 6) (by omega), up_off (q := 7) (by omega), up_off (q := 8) (by omega), up_off (q := 9) (by omega), up_off (q := 10) (by omega), f1 4 (by omega) (by omega) (by omega) (by omega), f1 6 (by omega) (by omega) (by omega) (by omega), f1 8 (by omega) (by omega) (by omega) (by omega), f1 9 (by omega) (by omega) (by omega) (by omega)]
      exact hu
    · unfold RNc
      have o : ∀ q, q ≠ 2 → q ≠ 3 → q ≠ 5 → q ≠ 7 → q ≠ 10 → (up g1 2 4 (g1 2 4 - 1)) q = g q := fun q h1 h2 h3 h4 h5 => by rw [up_off h1, f1 q h2 h3 h4 h5]
      rw [o 12 (by omega) (by omega) (by omega) (by omega) (by omega), o 13 (by omega) (by omega) (by omega) (by omega) (by omega), o 14 (by omega) (by omega) (by omega) (by omega) (by omega), o 16 (by omega) (by omega) (by omega) (by omega) (by omega), o 17 (by omega) (by omega) (by omega) (by omega) (by omega), o 18 (by omega) (by omega) (by omega) (by omega) (by omega), o 19 (by omega) (by omega) (by omega) (by omega) (by omega)]
      exact hI.nn.fr (fun k hk => f4.1 k (by omega)) (fun p hp => (f4.2.2.2.1 p hp).2.2.2)
    · have e2 : g1 2 = g 2 := f1 2 (by omega) (by omega) (by omega) (by omega)
      exact RH.undo (h := g 2) (row := fun k => (up g1 2 4 (g1 2 4 - 1)) (21 + k)) (RHrow hI.h fun k hk => by rw [up_off (by omega), f1 (21 + k) (by omega) (by omega) (by omega) (by omega)]) f4 (by omega) (fun k hk => by rw [up_at, if_neg hk, e2]) (by rw [up_at, if_pos rfl, e2])
    · exact f4.1 2 (by omega)
