-- the next order of a row
/-- the last place before m whose number is less than the next one's, or -1 -/
def fI (r : Nat → Int) : Nat → Int
  | 0 => -1
  | j + 1 => if r j < r (j + 1) then (j : Int) else fI r j
/-- the last place to m whose number is above v -/
def fK (r : Nat → Int) (v : Int) : Nat → Nat
  | 0 => 0
  | j + 1 => if v < r (j + 1) then j + 1 else fK r v j
/-- from where the number at c comes -/
def nxp (n i k c : Nat) : Nat :=
  let c' := if i + 1 ≤ c ∧ c < n then i + n - c else c
  if c' = k then i else if c' = i then k else c'
theorem fI_b (r : Nat → Int) (m : Nat) : -1 ≤ fI r m ∧ fI r m < m := by
  induction m with
  | zero => exact ⟨by show (-1 : Int) ≤ -1; decide, by show (-1 : Int) < ((0 : Nat) : Int); decide⟩
  | succ m ih => unfold fI; split <;> omega
theorem fI_lt {r : Nat → Int} {m i : Nat} (h : fI r m = (i : Int)) : r i < r (i + 1) := by
  induction m with
  | zero => have h' : (-1 : Int) = i := h; omega
  | succ m ih =>
    unfold fI at h
    split at h
    · have : m = i := by omega
      subst this; assumption
    · exact ih h
theorem fK_in {r : Nat → Int} {i m : Nat} (h : r i < r (i + 1)) (hm : i + 1 ≤ m) : i + 1 ≤ fK r (r i) m ∧ fK r (r i) m ≤ m ∧ r i < r (fK r (r i) m) := by
  induction m with
  | zero => omega
  | succ m ih =>
    unfold fK
    by_cases e : r i < r (m + 1)
    · rw [if_pos e]; exact ⟨hm, Nat.le_refl _, e⟩
    · rw [if_neg e]
      by_cases e2 : i = m
      · subst e2; exact absurd h e
      · have := ih (by omega)
        exact ⟨this.1, by omega, this.2.2⟩
theorem fI_congr {r r' : Nat → Int} {m : Nat} (h : ∀ j, j < m → (r j < r (j + 1) ↔ r' j < r' (j + 1))) : fI r m = fI r' m := by
  induction m with
  | zero => rfl
  | succ m ih =>
    unfold fI
    rw [ih fun j hj => h j (by omega)]
    by_cases e : r m < r (m + 1)
    · rw [if_pos e, if_pos ((h m (by omega)).mp e)]
    · rw [if_neg e, if_neg fun x => e ((h m (by omega)).mpr x)]
theorem fK_congr {r r' : Nat → Int} {v v' : Int} {m : Nat} (h : ∀ j, j ≤ m → (v < r j ↔ v' < r' j)) : fK r v m = fK r' v' m := by
  induction m with
  | zero => rfl
  | succ m ih =>
    unfold fK
    rw [ih fun j hj => h j (by omega)]
    by_cases e : v < r (m + 1)
    · rw [if_pos e, if_pos ((h (m + 1) (by omega)).mp e)]
    · rw [if_neg e, if_neg fun x => e ((h (m + 1) (by omega)).mpr x)]
/-- distinct below n -/
def dis (r : Nat → Int) (n : Nat) : Prop := ∀ i j, i < n → j < n → i ≠ j → r i ≠ r j
theorem nxp_rev {r0 r : Nat → Int} {n i k t : Nat} (hi : i + 1 < n) (hk1 : i + 1 ≤ k) (hk2 : k < n)
    (h : ∀ c, r c = if (i + 1 ≤ c ∧ c < i + 1 + t) ∨ (n - 1 - t < c ∧ c < n) then r0 (nxp n i k c) else r0 (if c = k then i else if c = i then k else c)) (ht : n - 1 - t ≤ i + 1 + t) (ht2 : t < n - i) : ∀ c, r c = r0 (nxp n i k c) := by
  intro c
  rw [h c]
  split
  · rfl
  · unfold nxp
    by_cases hc : i + 1 ≤ c ∧ c < n
    · rw [if_pos hc, show i + n - c = c by omega]
    · rw [if_neg hc]
set_option maxHeartbeats 1000000 in
theorem s_X11_nextOrder {d : Nat} {dd : List (Nat × Nat)} {sh : Nat → Nat → Nat} {g : Nat → Nat → Int} {K : Int → (Nat → Nat → Int) → Prop} {p n L : Nat} (hp : p ≠ 0) (hT : (T0 ++ dyn dd)[p]? = some (0, L)) (hL : L ≤ 7) (hn : n ≤ L) (hd : dis (g p) n) (hi : ∀ c, c < n → i32 (g p c)) (hK0 : fI (g p) (n - 1) = -1 → K 0 g) (hK1 : ∀ i : Nat, fI (g p) (n - 1) = i → ∀ g', (∀ q, q ≠ p → g' q = g q) → (∀ c, g' p c = g p (nxp n i (fK (g p) (g p i) (n - 1)) c)) → K 1 g') : cI (d + 2) m_X11_nextOrder [(vR p), (vI (n : Int))] dd sh g K := by
  refine mkI (ls := [some (vR p), some (vI (n : Int)), none, none, none, none]) rfl rfl rfl rfl rfl (r_X11_nextOrder_0 ?_)
  rw [lenT hT]
  refine ⟨⟨by omega, by omega⟩, fun h => hK0 (by rw [show n - 1 = 0 by omega]; rfl), fun h => ⟨arT hp hT, ⟨by omega, by omega⟩, fun _ => ?_, fun h => absurd h (by omega)⟩⟩
  have key : ∀ m : Nat, m ≤ n - 1 → fI (g p) m = fI (g p) (n - 1) → rI (d + 1) m_X11_nextOrder 17 [some (vR p), some (vI (n : Int)), some (vI ((m : Int) - 1)), none, none, none] [] dd sh g K := by
    intro m
    induction m with
    | zero =>
      intro _ e
      refine r_X11_nextOrder_17 ?_
      exact ⟨⟨by omega, by omega⟩, fun _ => ⟨fun h => absurd h (by omega), fun _ => hK0 (by rw [← e]; rfl)⟩, fun h => absurd h (by omega)⟩
    | succ m ih =>
      intro hm e
      refine r_X11_nextOrder_17 ?_
      rw [lenT hT, show (((m + 1 : Nat) : Int) - 1) = (m : Int) by omega, show ((m : Int)).toNat = m from rfl, show ((m : Int) + 1).toNat = m + 1 from rfl]
      have i1 := hi m (by omega)
      have i2 := hi (m + 1) (by omega)
      refine ⟨⟨by omega, by omega⟩, fun h => absurd h (by omega), fun _ => ⟨arT hp hT, by omega, by omega, by omega, by omega, i1, i2, fun hlt => ⟨fun _ => ?_, fun h => absurd h (by omega)⟩, fun hle => ?_⟩⟩
      · have eI : fI (g p) (n - 1) = (m : Int) := by rw [← e]; unfold fI; rw [if_pos hlt]
        have hk := fK_in hlt (show m + 1 ≤ n - 1 by omega)
        have hkk := hK1 m eI
        generalize hk0 : fK (g p) (g p m) (n - 1) = k at hk hkk
        have kl : ∀ j : Nat, j ≤ n - 1 → m + 1 ≤ j → fK (g p) (g p m) j = k → rI (d + 1) m_X11_nextOrder 48 [some (vR p), some (vI (n : Int)), some (vI (m : Int)), some (vI (j : Int)), none, none] [] dd sh g K := by
          intro j
          induction j with
          | zero => intro _ h _; omega
          | succ j ihj =>
            intro hj hj2 ej
            refine r_X11_nextOrder_48 ?_
            rw [lenT hT, show ((m : Int)).toNat = m from rfl, show (((j + 1 : Nat) : Int)).toNat = j + 1 from rfl]
            have i3 := hi (j + 1) (by omega)
            refine ⟨⟨by omega, by omega⟩, ⟨by omega, by omega⟩, fun h => absurd h (by omega), fun _ => ⟨arT hp hT, by omega, by omega, by omega, by omega, i3, i1, fun hl => ?_, fun hl => ?_⟩⟩
            · have ek : j + 1 = k := by rw [← ej]; unfold fK; rw [if_pos hl]
              refine s_X11_swap hp hT (by omega) (by omega) (by omega) (by omega) ?_
              have rev : ∀ (f t : Nat) (g' : Nat → Nat → Int), n ≤ f + t → t < n - m → (∀ q, q ≠ p → g' q = g q) → (∀ c, g' p c = if (m + 1 ≤ c ∧ c < m + 1 + t) ∨ (n - 1 - t < c ∧ c < n) then g p (nxp n m k c) else g p (if c = k then m else if c = m then k else c)) → rI (d + 1) m_X11_nextOrder 84 [some (vR p), none, none, none, some (vI ((m : Int) + 1 + t)), some (vI ((n : Int) - 1 - t))] [] dd sh g' K := by
                intro f
                induction f with
                | zero => intro t g' hf ht _ _; omega
                | succ f ihf =>
                  intro t g' hf ht f1 f2
                  refine r_X11_nextOrder_84 ⟨⟨by omega, by omega⟩, ⟨by omega, by omega⟩, fun h => hkk g' f1 (nxp_rev (by omega) hk.1 (by omega) f2 (by omega) ht), fun h => ?_⟩
                  refine s_X11_swap hp hT (by omega) (by omega) (by omega) (by omega) ?_
                  have := ihf (t + 1) (up (up g' p ((m : Int) + 1 + t).toNat (g' p ((n : Int) - 1 - t).toNat)) p ((n : Int) - 1 - t).toNat (g' p ((m : Int) + 1 + t).toNat)) (by omega) (by omega) (fun q hq => by rw [up_off hq, up_off hq]; exact f1 q hq) (fun c => by
                    rw [up_at, up_at]
                    have a1 : ((m : Int) + 1 + t).toNat = m + 1 + t := by omega
                    have a2 : ((n : Int) - 1 - t).toNat = n - 1 - t := by omega
                    rw [a1, a2, f2 (m + 1 + t), f2 (n - 1 - t), f2 c, if_neg (show ¬ ((m + 1 ≤ m + 1 + t ∧ m + 1 + t < m + 1 + t) ∨ (n - 1 - t < m + 1 + t ∧ m + 1 + t < n)) by omega), if_neg (show ¬ ((m + 1 ≤ n - 1 - t ∧ n - 1 - t < m + 1 + t) ∨ (n - 1 - t < n - 1 - t ∧ n - 1 - t < n)) by omega)]
                    by_cases c1 : c = n - 1 - t
                    · subst c1
                      rw [if_pos rfl, if_pos (show (m + 1 ≤ n - 1 - t ∧ n - 1 - t < m + 1 + (t + 1)) ∨ (n - 1 - (t + 1) < n - 1 - t ∧ n - 1 - t < n) by omega)]
                      unfold nxp
                      rw [if_pos (show m + 1 ≤ n - 1 - t ∧ n - 1 - t < n by omega), show m + n - (n - 1 - t) = m + 1 + t by omega]
                    · rw [if_neg c1]
                      by_cases c2 : c = m + 1 + t
                      · subst c2
                        rw [if_pos rfl, if_pos (show (m + 1 ≤ m + 1 + t ∧ m + 1 + t < m + 1 + (t + 1)) ∨ (n - 1 - (t + 1) < m + 1 + t ∧ m + 1 + t < n) by omega)]
                        unfold nxp
                        rw [if_pos (show m + 1 ≤ m + 1 + t ∧ m + 1 + t < n by omega), show m + n - (m + 1 + t) = n - 1 - t by omega]
                      · rw [if_neg c2]
                        by_cases c3 : (m + 1 ≤ c ∧ c < m + 1 + t) ∨ (n - 1 - t < c ∧ c < n)
                        · rw [if_pos c3, if_pos (by omega)]
                        · rw [if_neg c3, if_neg (show ¬ ((m + 1 ≤ c ∧ c < m + 1 + (t + 1)) ∨ (n - 1 - (t + 1) < c ∧ c < n)) by omega)])
                  rw [show (m : Int) + 1 + (t : Int) + 1 = (m : Int) + 1 + ((t + 1 : Nat) : Int) by omega, show (n : Int) - 1 - (t : Int) + (-1) = (n : Int) - 1 - ((t + 1 : Nat) : Int) by omega]
                  exact this
              have := rev n 0 (up (up g p m (g p (j + 1))) p (j + 1) (g p m)) (by omega) (by omega) (fun q hq => by rw [up_off hq, up_off hq]) (fun c => by
                rw [up_at, up_at, if_neg (show ¬ ((m + 1 ≤ c ∧ c < m + 1 + 0) ∨ (n - 1 - 0 < c ∧ c < n)) by omega), ek]
                by_cases c1 : c = k
                · rw [if_pos c1, if_pos c1]
                · rw [if_neg c1, if_neg c1]
                  by_cases c2 : c = m
                  · rw [if_pos c2, if_pos c2]
                  · rw [if_neg c2, if_neg c2])
              rw [show (m : Int) + 1 + ((0 : Nat) : Int) = (m : Int) + 1 by omega, show (n : Int) - 1 - ((0 : Nat) : Int) = (n : Int) - 1 by omega] at this
              exact this
            · have e2 : fK (g p) (g p m) j = k := by rw [← ej, fK, if_neg (by omega)]
              by_cases hjm : m + 1 ≤ j
              · have := ihj (by omega) hjm e2
                rw [show ((j + 1 : Nat) : Int) + (-1) = (j : Int) by omega]
                exact this
              · have : j = m := by omega
                subst this; omega
        have := kl (n - 1) (Nat.le_refl _) (by omega) hk0
        rw [show ((n : Int) - 1) = ((n - 1 : Nat) : Int) by omega]
        exact this
      · have := ih (by omega) (by rw [← e, fI, if_neg (by omega)])
        rw [show (m : Int) + (-1) = (m : Int) - 1 by omega]
        exact this
  have := key (n - 1) (Nat.le_refl _) rfl
  rw [show ((n : Int) - 2) = ((n - 1 : Nat) : Int) - 1 by omega]
  exact this
set_option maxHeartbeats 1000000 in
theorem s_X12_nextRow {d : Nat} {dd : List (Nat × Nat)} {sh : Nat → Nat → Nat} {g : Nat → Nat → Int} {K : Int → (Nat → Nat → Int) → Prop} {n : Nat} (hn : n ≤ 7) (hd : dis (g 144) n) (hi : ∀ c, c < n → i32 (g 144 c)) (hK0 : fI (g 144) (n - 1) = -1 → K 0 g) (hK1 : ∀ i : Nat, fI (g 144) (n - 1) = i → ∀ g', (∀ q, q ≠ 144 → g' q = g q) → (∀ c, g' 144 c = g 144 (nxp n i (fK (g 144) (g 144 i) (n - 1)) c)) → K 1 g') : cI (d + 1) m_X12_nextRow [(vR 134), (vI (n : Int))] dd sh g K := by
  refine mkI (ls := [some (vR 134), some (vI ((n : Int))), none, none, none, none, none]) rfl rfl rfl rfl rfl (r_X12_nextRow_0 ?_)
  have key : ∀ m : Nat, m ≤ n - 1 → fI (g 144) m = fI (g 144) (n - 1) → rI d m_X12_nextRow 4 [some (vR 134), some (vI (n : Int)), some (vI ((m : Int) - 1)), none, none, none, none] [] dd sh g K := by
    intro m
    induction m with
    | zero =>
      intro _ e
      refine r_X12_nextRow_4 ?_
      exact ⟨⟨by omega, by omega⟩, fun _ => ⟨fun h => absurd h (by omega), fun _ => hK0 (by rw [← e]; rfl)⟩, fun h => absurd h (by omega)⟩
    | succ m ih =>
      intro hm e
      refine r_X12_nextRow_4 ?_
      rw [show (((m + 1 : Nat) : Int) - 1) = (m : Int) by omega, show ((m : Int)).toNat = m from rfl, show ((m : Int) + 1).toNat = m + 1 from rfl]
      have i1 := hi m (by omega)
      have i2 := hi (m + 1) (by omega)
      have hne := hd m (m + 1) (by omega) (by omega) (by omega)
      refine ⟨⟨by omega, by omega⟩, fun h => absurd h (by omega), fun _ => ⟨by omega, by omega, by omega, by omega, i1, i2, fun hlt => ⟨fun _ => ?_, fun h => absurd h (by omega)⟩, fun hle => ?_⟩⟩
      · have hlt' : g 144 m < g 144 (m + 1) := by omega
        have eI : fI (g 144) (n - 1) = (m : Int) := by rw [← e]; unfold fI; rw [if_pos hlt']
        have hk := fK_in hlt' (show m + 1 ≤ n - 1 by omega)
        have hkk := hK1 m eI
        generalize hk0 : fK (g 144) (g 144 m) (n - 1) = k at hk hkk
        have kl : ∀ j : Nat, j ≤ n - 1 → m + 1 ≤ j → fK (g 144) (g 144 m) j = k → rI d m_X12_nextRow 41 [some (vR 134), some (vI (n : Int)), some (vI (m : Int)), some (vI (j : Int)), none, none, none] [] dd sh g K := by
          intro j
          induction j with
          | zero => intro _ h _; omega
          | succ j ihj =>
            intro hj hj2 ej
            refine r_X12_nextRow_41 ?_
            rw [show ((m : Int)).toNat = m from rfl, show (((j + 1 : Nat) : Int)).toNat = j + 1 from rfl]
            have i3 := hi (j + 1) (by omega)
            have hne2 := hd m (j + 1) (by omega) (by omega) (by omega)
            refine ⟨by omega, by omega, by omega, by omega, i3, i1, fun hl => ?_, fun hl => ?_⟩
            · have hl' : g 144 m < g 144 (j + 1) := by omega
              have ek : j + 1 = k := by rw [← ej]; unfold fK; rw [if_pos hl']
              have rev : ∀ (f t : Nat) (g' : Nat → Nat → Int), n ≤ f + t → t < n - m → (∀ q, q ≠ 144 → g' q = g q) → (∀ c, g' 144 c = if (m + 1 ≤ c ∧ c < m + 1 + t) ∨ (n - 1 - t < c ∧ c < n) then g 144 (nxp n m k c) else g 144 (if c = k then m else if c = m then k else c)) → rI d m_X12_nextRow 100 [some (vR 134), none, none, none, none, some (vI ((m : Int) + 1 + t)), some (vI ((n : Int) - 1 - t))] [] dd sh g' K := by
                intro f
                induction f with
                | zero => intro t g' hf ht _ _; omega
                | succ f ihf =>
                  intro t g' hf ht f1 f2
                  refine r_X12_nextRow_100 ⟨⟨by omega, by omega⟩, ⟨by omega, by omega⟩, fun h => hkk g' f1 (nxp_rev (by omega) hk.1 (by omega) f2 (by omega) ht), fun h => ⟨by omega, by omega, by omega, by omega, ?_⟩⟩
                  have := ihf (t + 1) (up (up g' 144 ((m : Int) + 1 + t).toNat (g' 144 ((n : Int) - 1 - t).toNat)) 144 ((n : Int) - 1 - t).toNat (g' 144 ((m : Int) + 1 + t).toNat)) (by omega) (by omega) (fun q hq => by rw [up_off hq, up_off hq]; exact f1 q hq) (fun c => by
                    rw [up_at, up_at]
                    have a1 : ((m : Int) + 1 + t).toNat = m + 1 + t := by omega
                    have a2 : ((n : Int) - 1 - t).toNat = n - 1 - t := by omega
                    rw [a1, a2, f2 (m + 1 + t), f2 (n - 1 - t), f2 c, if_neg (show ¬ ((m + 1 ≤ m + 1 + t ∧ m + 1 + t < m + 1 + t) ∨ (n - 1 - t < m + 1 + t ∧ m + 1 + t < n)) by omega), if_neg (show ¬ ((m + 1 ≤ n - 1 - t ∧ n - 1 - t < m + 1 + t) ∨ (n - 1 - t < n - 1 - t ∧ n - 1 - t < n)) by omega)]
                    by_cases c1 : c = n - 1 - t
                    · subst c1
                      rw [if_pos rfl, if_pos (show (m + 1 ≤ n - 1 - t ∧ n - 1 - t < m + 1 + (t + 1)) ∨ (n - 1 - (t + 1) < n - 1 - t ∧ n - 1 - t < n) by omega)]
                      unfold nxp
                      rw [if_pos (show m + 1 ≤ n - 1 - t ∧ n - 1 - t < n by omega), show m + n - (n - 1 - t) = m + 1 + t by omega]
                    · rw [if_neg c1]
                      by_cases c2 : c = m + 1 + t
                      · subst c2
                        rw [if_pos rfl, if_pos (show (m + 1 ≤ m + 1 + t ∧ m + 1 + t < m + 1 + (t + 1)) ∨ (n - 1 - (t + 1) < m + 1 + t ∧ m + 1 + t < n) by omega)]
                        unfold nxp
                        rw [if_pos (show m + 1 ≤ m + 1 + t ∧ m + 1 + t < n by omega), show m + n - (m + 1 + t) = n - 1 - t by omega]
                      · rw [if_neg c2]
                        by_cases c3 : (m + 1 ≤ c ∧ c < m + 1 + t) ∨ (n - 1 - t < c ∧ c < n)
                        · rw [if_pos c3, if_pos (by omega)]
                        · rw [if_neg c3, if_neg (show ¬ ((m + 1 ≤ c ∧ c < m + 1 + (t + 1)) ∨ (n - 1 - (t + 1) < c ∧ c < n)) by omega)])
                  rw [show (m : Int) + 1 + (t : Int) + 1 = (m : Int) + 1 + ((t + 1 : Nat) : Int) by omega, show (n : Int) - 1 - (t : Int) + (-1) = (n : Int) - 1 - ((t + 1 : Nat) : Int) by omega]
                  exact this
              have := rev n 0 (up (up g 144 m (g 144 (j + 1))) 144 (j + 1) (g 144 m)) (by omega) (by omega) (fun q hq => by rw [up_off hq, up_off hq]) (fun c => by
                rw [up_at, up_at, if_neg (show ¬ ((m + 1 ≤ c ∧ c < m + 1 + 0) ∨ (n - 1 - 0 < c ∧ c < n)) by omega), ek]
                by_cases c1 : c = k
                · rw [if_pos c1, if_pos c1]
                · rw [if_neg c1, if_neg c1]
                  by_cases c2 : c = m
                  · rw [if_pos c2, if_pos c2]
                  · rw [if_neg c2, if_neg c2])
              rw [show (m : Int) + 1 + ((0 : Nat) : Int) = (m : Int) + 1 by omega, show (n : Int) - 1 - ((0 : Nat) : Int) = (n : Int) - 1 by omega] at this
              exact this
            · have e2 : fK (g 144) (g 144 m) j = k := by rw [← ej, fK, if_neg (by omega)]
              by_cases hjm : m + 1 ≤ j
              · have := ihj (by omega) hjm e2
                rw [show ((j + 1 : Nat) : Int) + (-1) = (j : Int) by omega]
                exact this
              · have : j = m := by omega
                subst this; omega
        have := kl (n - 1) (Nat.le_refl _) (by omega) hk0
        rw [show ((n : Int) - 1) = ((n - 1 : Nat) : Int) by omega]
        exact this
      · have := ih (by omega) (by rw [← e, fI, if_neg (by omega)])
        rw [show (m : Int) + (-1) = (m : Int) - 1 by omega]
        exact this
  by_cases hn0 : n = 0
  · subst hn0
    refine r_X12_nextRow_4 ?_
    exact ⟨⟨by omega, by omega⟩, fun _ => ⟨fun h => absurd h (by omega), fun _ => hK0 rfl⟩, fun h => absurd h (by omega)⟩
  · have := key (n - 1) (Nat.le_refl _) rfl
    rw [show ((n : Int) - 2) = ((n - 1 : Nat) : Int) - 1 by omega]
    exact this
-- all rows one after another
def lf (l : List Nat) (c : Nat) : Int := ((l.getD c 0 : Nat) : Int)
def nxl (n : Nat) (l : List Nat) : List Nat := (List.range n).map fun c => l.getD (nxp n (fI (lf l) (n - 1)).toNat (fK (lf l) (lf l (fI (lf l) (n - 1)).toNat) (n - 1)) c) 0
def okl (n : Nat) (l : List Nat) : Bool := ((List.range n).all fun i => decide (l.getD i 0 < n)) && (List.range n).all fun i => (List.range n).all fun j => decide (i = j) || decide (l.getD i 0 ≠ l.getD j 0)
def chk (n : Nat) : Nat → List Nat → Bool
  | 0, _ => false
  | f + 1, l => okl n l && (decide (fI (lf l) (n - 1) = -1) || chk n f (nxl n l))
/-- one step a row, from l on -/
def rows {S : Type} (step : S → List Nat → S) (n : Nat) : Nat → List Nat → S → S
  | 0, _, s => s
  | f + 1, l, s => if fI (lf l) (n - 1) = -1 then step s l else rows step n f (nxl n l) (step s l)
set_option maxRecDepth 100000 in
theorem chk_all : ∀ n, n < 6 → chk n 120 (List.range n) = true := by decide +kernel
theorem okl_lt {n : Nat} {l : List Nat} (h : okl n l = true) : ∀ i, i < n → l.getD i 0 < n := by
  unfold okl at h
  rw [Bool.and_eq_true, List.all_eq_true] at h
  exact fun i hi => of_decide_eq_true (h.1 i (List.mem_range.mpr hi))
theorem okl_ne {n : Nat} {l : List Nat} (h : okl n l = true) : ∀ i j, i < n → j < n → i ≠ j → l.getD i 0 ≠ l.getD j 0 := by
  unfold okl at h
  rw [Bool.and_eq_true, List.all_eq_true, List.all_eq_true] at h
  intro i j hi hj hij
  have h1 := h.2 i (List.mem_range.mpr hi)
  rw [List.all_eq_true] at h1
  have h2 := h1 j (List.mem_range.mpr hj)
  rw [Bool.or_eq_true] at h2
  rcases h2 with h2 | h2
  · exact absurd (of_decide_eq_true h2) hij
  · exact of_decide_eq_true h2
theorem nxp_lt {n i k c : Nat} (hc : c < n) (hi : i < n) (hk : k < n) : nxp n i k c < n := by
  unfold nxp
  by_cases h : i + 1 ≤ c ∧ c < n
  · rw [if_pos h]
    show (if i + n - c = k then i else if i + n - c = i then k else i + n - c) < n
    split
    · exact hi
    · split <;> omega
  · rw [if_neg h]
    show (if c = k then i else if c = i then k else c) < n
    split
    · exact hi
    · split <;> omega
theorem nxl_get {n c : Nat} {l : List Nat} (hc : c < n) : (nxl n l).getD c 0 = l.getD (nxp n (fI (lf l) (n - 1)).toNat (fK (lf l) (lf l (fI (lf l) (n - 1)).toNat) (n - 1)) c) 0 := by
  unfold nxl
  rw [List.getD_eq_getElem?_getD, List.getElem?_map, List.getElem?_range hc]
  rfl
