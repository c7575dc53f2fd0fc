-- laws' stretches put together
theorem run_wide {o v nm : Nat → Int} {pays : Bool} {lo hi lo' hi' : Nat} (h1 : lo' ≤ lo) (h2 : hi ≤ hi') : ∀ k s t, Run o v nm pays lo hi k s t → Run o v nm pays lo' hi' k s t := by
  intro k
  induction k with
  | zero => intro s t h; exact h
  | succ k ih =>
    intro s t h
    obtain ⟨a, b⟩ := h
    refine ⟨?_, ih _ _ b⟩
    obtain ⟨i, n, ag, vals, times, tot, i8⟩ := s
    exact ⟨⟨by have := a.1; omega, by have := a.1; omega⟩, a.2⟩
theorem run_tr {o v nm : Nat → Int} {pays : Bool} {lo hi : Nat} : ∀ k k' s t u, Run o v nm pays lo hi k s t → Run o v nm pays lo hi k' t u → Run o v nm pays lo hi (k + k') s u := by
  intro k
  induction k with
  | zero =>
    intro k' s t u h h'
    have e : s = t := h
    subst e
    rw [Nat.zero_add]; exact h'
  | succ k ih =>
    intro k' s t u h h'
    obtain ⟨a, b⟩ := h
    rw [Nat.succ_add]
    exact ⟨a, ih k' _ t u b h'⟩
theorem run_one {o v nm : Nat → Int} {pays : Bool} {lo hi : Nat} {s t : SS} (h : ok1 o v pays lo hi s) (e : st1 o v nm s = t) : Run o v nm pays lo hi 1 s t := ⟨h, e⟩
theorem upv_at {a : Nat → Int} {j : Nat} {x : Int} : upv a j x j = x := if_pos rfl
theorem upv_off {a : Nat → Int} {j k : Nat} {x : Int} (h : k ≠ j) : upv a j x k = a k := if_neg h
theorem EvSeg.mono {o v : Nat → Int} {pays it : Bool} {lo hi H H' : Nat} (h : EvSeg o v pays it lo hi H) (hH : H ≤ H') : EvSeg o v pays it lo hi H' := by
  obtain ⟨X, h1, h2, h3⟩ := h
  exact ⟨X, h1, h2, fun nm hnm n ag vals times tot i8 hn => h3 nm hnm n ag vals times tot i8 (by omega)⟩
theorem ev_num {o v : Nat → Int} {pays it : Bool} {lo : Nat} (ho : o lo = 0) (hv : 0 ≤ v lo ∧ v lo ≤ 9999) : EvSeg o v pays it lo (lo + 1) 1 := by
  refine ⟨fun _ _ => v lo, fun _ _ _ _ _ => rfl, fun _ _ _ _ => rfl, fun nm hnm n ag vals times tot i8 hn hag hok hi8 => ?_⟩
  obtain ⟨k1, k2, k3⟩ := hok
  refine ⟨1, ag, upv vals n (v lo), times, tot, i8, by split <;> omega, run_one ⟨⟨Nat.le_refl _, by omega⟩, by omega, hag, ⟨k1, k2, k3⟩, ⟨by omega, by omega⟩, fun _ => hv, fun h => absurd h (by omega), fun h => absurd h (by omega), fun h => absurd h (by omega), fun h => absurd h (by omega), fun h => absurd h (by omega)⟩ ?_, fun j hj => upv_off (by omega), upv_at, hag, ⟨fun j hj => ?_, k2, k3⟩, fun _ => ⟨rfl, rfl, rfl, rfl⟩⟩
  · unfold st1
    simp only [ho, if_true]
  · by_cases e : j = n
    · subst e; rw [upv_at]; omega
    · rw [upv_off e]; exact k1 j (by omega)
theorem ev_name {o v : Nat → Int} {pays it : Bool} {lo : Nat} {w : Nat} (ho : o lo = 1) (hv : v lo = (w : Int)) (hw : w ≤ 8) (hp : pays = true → w < 5 ∨ w = 8) (h8 : w = 8 → it = true) : EvSeg o v pays it lo (lo + 1) 1 := by
  refine ⟨fun nm i8 => if w = 8 then i8 else nm w, fun hpp nm nm' i8 h => ?_, fun hit nm i8 i8' => ?_, fun nm hnm n ag vals times tot i8 hn hag hok hi8 => ?_⟩
  · show (if w = 8 then i8 else nm w) = (if w = 8 then i8 else nm' w)
    by_cases e : w = 8
    · rw [if_pos e, if_pos e]
    · rw [if_neg e, if_neg e]; exact h w (by have := hp hpp; omega)
  · have e : ¬ w = 8 := fun e => by rw [h8 e] at hit; exact absurd hit (by decide)
    show (if w = 8 then i8 else nm w) = (if w = 8 then i8' else nm w)
    rw [if_neg e, if_neg e]
  · obtain ⟨k1, k2, k3⟩ := hok
    have hx : -1000000 ≤ (if w = 8 then i8 else nm w) ∧ (if w = 8 then i8 else nm w) ≤ 1000000 := by
      by_cases e : w = 8
      · rw [if_pos e]; have := hi8 (h8 e); omega
      · rw [if_neg e]; have := hnm w (by omega) (fun hpp => by have := hp hpp; omega); omega
    refine ⟨1, ag, upv vals n (if w = 8 then i8 else nm w), times, tot, i8, by split <;> omega, run_one ⟨⟨Nat.le_refl _, by omega⟩, by omega, hag, ⟨k1, k2, k3⟩, ⟨by omega, by omega⟩, fun h => absurd h (by omega), fun _ => ⟨⟨by omega, by omega⟩, fun hpp => by have := hp hpp; omega, fun h => hi8 (h8 (by omega))⟩, fun h => absurd h (by omega), fun h => absurd h (by omega), fun h => absurd h (by omega), fun h => absurd h (by omega)⟩ ?_, fun j hj => upv_off (by omega), upv_at, hag, ⟨fun j hj => ?_, k2, k3⟩, fun _ => ⟨rfl, rfl, rfl, rfl⟩⟩
    · have e1 : st1 o v nm (lo, n, ag, vals, times, tot, i8) = (lo + 1, n + 1, ag, upv vals n (if v lo = 8 then i8 else nm (v lo).toNat), times, tot, i8) := by
        unfold st1
        simp only [ho]
        rfl
      rw [e1, hv, show ((w : Int)).toNat = w from rfl]
      by_cases e : w = 8
      · rw [if_pos (by omega), if_pos e]
      · rw [if_neg (by omega), if_neg e]
    · by_cases e : j = n
      · subst e; rw [upv_at]; exact hx
      · rw [upv_off e]; exact k1 j (by omega)
theorem ev_minus {o v : Nat → Int} {pays it : Bool} {lo hi H : Nat} (h : EvSeg o v pays it lo hi H) (hlh : lo ≤ hi) (hH : 1 ≤ H) (ho : o hi = 3) : EvSeg o v pays it lo (hi + 1) (H + 1) := by
  obtain ⟨X, h1, h2, h3⟩ := h
  refine ⟨fun nm i8 => -(X nm i8), fun hp nm nm' i8 e => by show -(X nm i8) = -(X nm' i8); rw [h1 hp nm nm' i8 e], fun hit nm i8 i8' => by show -(X nm i8) = -(X nm i8'); rw [h2 hit nm i8 i8'], fun nm hnm n ag vals times tot i8 hn hag hok hi8 => ?_⟩
  obtain ⟨k, ag', vals', times', tot', i8', r1, r2, r3, r4, r5, r6, r7⟩ := h3 nm hnm n ag vals times tot i8 (by omega) hag hok hi8
  obtain ⟨k1, k2, k3⟩ := r6
  have hx := k1 n (by omega)
  refine ⟨k + 1, ag', upv vals' n (-(vals' n)), times', tot', i8', ?_, run_tr k 1 _ _ _ (run_wide (Nat.le_refl _) (by omega) _ _ _ r2) (run_one ⟨⟨hlh, by omega⟩, by omega, r5, ⟨k1, k2, k3⟩, ⟨by omega, by omega⟩, fun h => absurd h (by omega), fun h => absurd h (by omega), fun h => absurd h (by omega), fun _ => by omega, fun h => absurd h (by omega), fun h => absurd h (by omega)⟩ ?_), fun j hj => ?_, ?_, r5, ⟨fun j hj => ?_, k2, k3⟩, r7⟩
  · split
    · next e => rw [if_pos e] at r1; omega
    · next e => rw [if_neg e] at r1; omega
  · unfold st1
    simp only [ho]
    rfl
  · rw [upv_off (by omega)]; exact r3 j hj
  · rw [upv_at, r4]
  · by_cases e : j = n
    · subst e; rw [upv_at]; omega
    · rw [upv_off e]; exact k1 j hj
theorem ev_bin {o v : Nat → Int} {pays it : Bool} {lo mid hi H H2 : Nat} (h : EvSeg o v pays it lo mid H) (h' : EvSeg o v pays it mid hi H2) (hl1 : lo ≤ mid) (hl2 : mid ≤ hi) (hH : H2 + 1 ≤ H) (hH3 : 3 ≤ H) (ho : 4 ≤ o hi ∧ o hi ≤ 7) : EvSeg o v pays it lo (hi + 1) H := by
  obtain ⟨X, h1, h2, h3⟩ := h
  obtain ⟨Y, y1, y2, y3⟩ := h'
  refine ⟨fun nm i8 => twoV (o hi) (X nm i8) (Y nm i8), fun hp nm nm' i8 e => by show twoV (o hi) (X nm i8) (Y nm i8) = twoV (o hi) (X nm' i8) (Y nm' i8); rw [h1 hp nm nm' i8 e, y1 hp nm nm' i8 e], fun hit nm i8 i8' => by show twoV (o hi) (X nm i8) (Y nm i8) = twoV (o hi) (X nm i8') (Y nm i8'); rw [h2 hit nm i8 i8', y2 hit nm i8 i8'], fun nm hnm n ag vals times tot i8 hn hag hok hi8 => ?_⟩
  obtain ⟨k, ag', vals', times', tot', i8', r1, r2, r3, r4, r5, r6, r7⟩ := h3 nm hnm n ag vals times tot i8 hn hag hok hi8
  obtain ⟨q, ag2, vals2, times2, tot2, i82, s1, s2, s3, s4, s5, s6, s7⟩ := y3 nm hnm (n + 1) ag' vals' times' tot' i8' (by omega) r5 r6 (fun e => by rw [(r7 e).2.2.2]; exact hi8 e)
  obtain ⟨k1, k2, k3⟩ := s6
  have hx := k1 n (by omega)
  have e8 : Y nm i8' = Y nm i8 := by
    by_cases e : it = true
    · rw [(r7 e).2.2.2]
    · exact y2 (by simpa using e) nm i8' i8
  have hn0 : ¬ o hi = 0 := by omega
  have hn1 : ¬ o hi = 1 := by omega
  have hn2 : ¬ o hi = 2 := by omega
  have hn3 : ¬ o hi = 3 := by omega
  have hn8 : ¬ o hi = 8 := by omega
  refine ⟨k + q + 1, ag2, upv vals2 n (twoV (o hi) (vals2 n) (vals2 (n + 1))), times2, tot2, i82, ?_, run_tr (k + q) 1 _ _ _ (run_tr k q _ _ _ (run_wide (Nat.le_refl _) (by omega) _ _ _ r2) (run_wide hl1 (by omega) _ _ _ s2)) (run_one ⟨⟨by omega, by omega⟩, by omega, s5, ⟨k1, k2, k3⟩, ⟨by omega, by omega⟩, fun h => absurd h hn0, fun h => absurd h hn1, fun h => absurd h hn2, fun h => absurd h (by omega), fun _ _ => by omega, fun h => absurd h hn8⟩ ?_), fun j hj => ?_, ?_, s5, ⟨fun j hj => ?_, k2, k3⟩, fun e => ?_⟩
  · split
    · next e => rw [if_pos e] at r1 s1; omega
    · next e => rw [if_neg e] at r1 s1; omega
  · unfold st1
    simp only [hn0, hn1, hn2, hn3, hn8, if_false]
    rfl
  · rw [upv_off (by omega), s3 j (by omega)]; exact r3 j hj
  · rw [upv_at, s3 n (by omega), r4, s4, e8]
  · by_cases e : j = n
    · subst e; rw [upv_at]; exact twoV_b hx
    · rw [upv_off e]; exact k1 j (by omega)
  · have a := r7 e
    have b := s7 e
    exact ⟨by rw [b.1, a.1], by rw [b.2.1, a.2.1], by rw [b.2.2.1, a.2.2.1], by rw [b.2.2.2, a.2.2.2]⟩
def totX (X : (Nat → Int) → Int → Int) (nm : Nat → Int) : Nat → Int
  | 0 => 0
  | r + 1 => hld (totX X nm r + X nm (r : Int))
theorem totX_b (X : (Nat → Int) → Int → Int) (nm : Nat → Int) (r : Nat) : -1000000 ≤ totX X nm r ∧ totX X nm r ≤ 1000000 := by
  cases r with
  | zero => exact ⟨show (-1000000 : Int) ≤ 0 by decide, show (0 : Int) ≤ 1000000 by decide⟩
  | succ r => exact hld_b
theorem ev_tot {o v : Nat → Int} {pays : Bool} {lo hi H T : Nat} (h : EvSeg o v pays true (lo + 1) hi H) (hlh : lo + 1 ≤ hi) (hH : 1 ≤ H) (hlo : lo ≤ 900) (ho : o lo = 2) (hv : v lo = (T : Int)) (hT : 1 ≤ T ∧ T ≤ 9) (ho8 : o hi = 8) : EvSeg o v pays false lo (hi + 1) (H + 1) := by
  obtain ⟨X, h1, h2, h3⟩ := h
  have c1 : ∀ nm nm', pays = true → (∀ j, j < 5 → nm j = nm' j) → ∀ r, totX X nm r = totX X nm' r := fun nm nm' hp e r => by
    induction r with
    | zero => rfl
    | succ r ih => show hld (totX X nm r + X nm (r : Int)) = hld (totX X nm' r + X nm' (r : Int)); rw [ih, h1 hp nm nm' _ e]
  refine ⟨fun nm _ => totX X nm T, fun hp nm nm' i8 e => c1 nm nm' hp e T, fun _ nm i8 i8' => rfl, fun nm hnm n ag vals times tot i8 hn hag hok hi8 => ?_⟩
  obtain ⟨k1, k2, k3⟩ := hok
  -- r rounds are still to come
  have key : ∀ (r c : Nat) (vals1 : Nat → Int), c + r = T → 1 ≤ r → (∀ j, j < n → vals1 j = vals j) → ∃ (k : Nat) (vals' : Nat → Int), k ≤ r * (hi - lo) ∧ Run o v nm pays lo (hi + 1) k (lo + 1, n, lo + 1, vals1, (T : Int), totX X nm c, (c : Int)) (hi + 1, n + 1, lo + 1, vals', (T : Int), totX X nm T, (T : Int)) ∧ (∀ j, j < n → vals' j = vals j) ∧ vals' n = totX X nm T := by
    intro r
    induction r with
    | zero => intro c vals1 _ h; omega
    | succ r ih =>
      intro c vals1 hc _ hv1
      have tb := totX_b X nm c
      obtain ⟨k, ag', vals', times', tot', i8', r1, r2, r3, r4, r5, r6, r7⟩ := h3 nm hnm n (lo + 1) vals1 (T : Int) (totX X nm c) (c : Int) (by omega) (by omega) ⟨fun j hj => by rw [hv1 j hj]; exact k1 j hj, ⟨by omega, by omega⟩, tb⟩ (fun _ => ⟨by omega, by omega⟩)
      obtain ⟨q1, q2, q3, q4⟩ := r7 rfl
      subst q1
      rw [q2, q3, q4] at r2
      rw [q2, q3] at r6
      rw [if_pos rfl] at r1
      have hok1 : ok1 o v pays lo (hi + 1) (hi, n + 1, lo + 1, vals', (T : Int), totX X nm c, (c : Int)) := ⟨⟨by omega, by omega⟩, by omega, by omega, r6, ⟨by omega, by omega⟩, fun h => absurd h (by omega), fun h => absurd h (by omega), fun h => absurd h (by omega), fun _ => by omega, fun h h' => absurd h' (by omega), fun _ => ⟨by omega, by omega⟩⟩
      have hst : totX X nm (c + 1) = hld (totX X nm c + vals' n) := by rw [r4]; rfl
      have e0 : ¬ o hi = 0 := by omega
      have e1 : ¬ o hi = 1 := by omega
      have e2 : ¬ o hi = 2 := by omega
      have e3 : ¬ o hi = 3 := by omega
      have hs : st1 o v nm (hi, n + 1, lo + 1, vals', (T : Int), totX X nm c, (c : Int)) = (if (c : Int) + 1 < (T : Int) then (lo + 1, n, lo + 1, upv vals' n (hld (totX X nm c + vals' n)), (T : Int), hld (totX X nm c + vals' n), (c : Int) + 1) else (hi + 1, n + 1, lo + 1, upv vals' n (hld (totX X nm c + vals' n)), (T : Int), hld (totX X nm c + vals' n), (c : Int) + 1)) := by
        unfold st1
        simp only [e0, e1, e2, e3, ho8, if_false, if_true]
        rfl
      have run1 := run_wide (lo' := lo) (hi' := hi + 1) (by omega) (by omega) _ _ _ r2
      by_cases e : r = 0
      · subst e
        rw [if_neg (by omega)] at hs
        refine ⟨k + 1, upv vals' n (hld (totX X nm c + vals' n)), by omega, run_tr k 1 _ _ _ run1 (run_one hok1 ?_), fun j hj => ?_, ?_⟩
        · rw [hs, ← hst, show T = c + 1 by omega]
          rfl
        · rw [upv_off (by omega), r3 j hj]; exact hv1 j hj
        · rw [upv_at, ← hst, show T = c + 1 by omega]
      · rw [if_pos (by omega)] at hs
        obtain ⟨k', vals2, a1, a2, a3, a4⟩ := ih (c + 1) (upv vals' n (hld (totX X nm c + vals' n))) (by omega) (by omega) (fun j hj => by rw [upv_off (by omega), r3 j hj]; exact hv1 j hj)
        refine ⟨k + 1 + k', vals2, ?_, run_tr (k + 1) k' _ _ _ (run_tr k 1 _ _ _ run1 (run_one hok1 ?_)) a2, a3, a4⟩
        · have em : (r + 1) * (hi - lo) = r * (hi - lo) + (hi - lo) := Nat.succ_mul _ _
          omega
        · rw [hs, ← hst]
          rfl
  obtain ⟨k, vals', a1, a2, a3, a4⟩ := key T 0 vals (by omega) hT.1 (fun _ _ => rfl)
  have tb := totX_b X nm T
  refine ⟨1 + k, lo + 1, vals', (T : Int), totX X nm T, (T : Int), ?_, run_tr 1 k _ _ _ (run_one ⟨⟨Nat.le_refl _, by omega⟩, by omega, hag, ⟨k1, k2, k3⟩, ⟨by omega, by omega⟩, fun h => absurd h (by omega), fun h => absurd h (by omega), fun _ => ⟨by omega, by omega⟩, fun h => absurd h (by omega), fun h => absurd h (by omega), fun h => absurd h (by omega)⟩ ?_) a2, a3, a4, by omega, ⟨fun j hj => ?_, ⟨by omega, by omega⟩, tb⟩, fun e => absurd e (by decide)⟩
  · have em : T * (hi - lo) ≤ 9 * (hi - lo) := Nat.mul_le_mul_right _ hT.2
    rw [if_neg (by decide)]
    omega
  · unfold st1
    simp only [ho, hv]
    rfl
  · by_cases e : j = n
    · subst e; rw [a4]; exact tb
    · rw [a3 j (by omega)]; exact k1 j (by omega)
