-- odds and pay
def nmA (a : Nat → Int) (p c : Nat) (j : Nat) : Int := if j = 0 then a 10 else if j = 1 then a (17 + 7 * p) else if j = 2 then a (19 + 7 * p) else if j = 3 then (a (18 + 7 * p)).tdiv 10 else if j = 4 then (a (18 + 7 * p)).tmod 10 else if j = 5 then a (58 + 4 * c) else if j = 6 then a (59 + 4 * c) else c
theorem td10 {x : Int} (h : 0 ≤ x) : x.tdiv 10 = x / 10 ∧ x.tmod 10 = x % 10 := ⟨Int.tdiv_eq_ediv_of_nonneg h, Int.tmod_eq_emod_of_nonneg h⟩
theorem td2 {x : Int} (h : 0 ≤ x) : x.tdiv 2 = x / 2 := Int.tdiv_eq_ediv_of_nonneg h
theorem nmA_b {a : Nat → Int} (h : AB a) {p c : Nat} (hp : p < 6) (hpa : (p : Int) < a 0) (hc : c < 7) (hca : (c : Int) < a 1) : ∀ j, j < 8 → 0 ≤ nmA a p c j ∧ nmA a p c j ≤ 9999 := by
  intro j hj
  have h1 := h.night
  have h2 := h.pp p hp hpa
  have h3 := h.cc c hc hca
  have h5 := td10 (show 0 ≤ a (18 + 7 * p) by omega)
  unfold nmA
  split
  · omega
  · split
    · omega
    · split
      · omega
      · split
        · omega
        · split
          · omega
          · split
            · omega
            · split
              · omega
              · omega
theorem nmA_b5 {a : Nat → Int} (h : AB a) {p : Nat} (c : Nat) (hp : p < 6) (hpa : (p : Int) < a 0) : ∀ j, j < 5 → 0 ≤ nmA a p c j ∧ nmA a p c j ≤ 9999 := by
  intro j hj
  have h1 := h.night
  have h2 := h.pp p hp hpa
  have h5 := td10 (show 0 ≤ a (18 + 7 * p) by omega)
  unfold nmA
  split
  · omega
  · split
    · omega
    · split
      · omega
      · split
        · omega
        · split
          · omega
          · omega
noncomputable def oddsA (a T : Nat → Int) (t : Int) (p c : Nat) (gu : Int) : Int := if gu = 0 then lawV T t 1 (nmA a p c) 1 10 else lawV T t 0 (nmA a p c) (min (max (a (58 + 4 * c) - (a (19 + 7 * p)).tdiv 2) 0) 10) 10
noncomputable def paysA (a T : Nat → Int) (p : Nat) : Int := lawV T (a 3) 2 (nmA a p 0) (10 - (a (18 + 7 * p)).tdiv 10) 999
theorem lawF_b {x : Nat} {T : Nat → Int} {w : Nat} {nm : Nat → Int} {wo top : Int} (h : 0 ≤ wo ∧ wo ≤ top) : ∀ n k, 0 ≤ lawF x T w nm wo top n k ∧ lawF x T w nm wo top n k ≤ top := by
  intro n
  induction n with
  | zero => intro k; exact h
  | succ n ih =>
    intro k
    show 0 ≤ (if T (x + 1 + 3 * k) = w then _ else lawF x T w nm wo top n (k + 1)) ∧ (if T (x + 1 + 3 * k) = w then _ else lawF x T w nm wo top n (k + 1)) ≤ top
    split
    · omega
    · exact ih (k + 1)
theorem lawV_b {T : Nat → Int} {t : Int} {w : Nat} {nm : Nat → Int} {wo top : Int} (h : 0 ≤ wo ∧ wo ≤ top) : 0 ≤ lawV T t w nm wo top ∧ lawV T t w nm wo top ≤ top := by
  unfold lawV
  split
  · exact h
  · exact lawF_b h _ _
theorem oddsA_b (a T : Nat → Int) (t : Int) (p c : Nat) (gu : Int) : 0 ≤ oddsA a T t p c gu ∧ oddsA a T t p c gu ≤ 10 := by
  unfold oddsA
  split
  · exact lawV_b ⟨by decide, by decide⟩
  · exact lawV_b ⟨by omega, by omega⟩
theorem paysA_b {a : Nat → Int} (h : AB a) (T : Nat → Int) {p : Nat} (hp : p < 6) (hpa : (p : Int) < a 0) : 0 ≤ paysA a T p ∧ paysA a T p ≤ 999 := by
  have h2 := h.pp p hp hpa
  have h5 := td10 (show 0 ≤ a (18 + 7 * p) by omega)
  exact lawV_b ⟨by omega, by omega⟩
theorem s_X9_hasLaw {d : Nat} {dd : List (Nat × Nat)} {sh : Nat → Nat → Nat} {g : Nat → Nat → Int} {K : Int → (Nat → Nat → Int) → Prop} {j n c w : Nat} (hj : dd[j]? = some (n, c)) (hw : w < 3) (h1 : i32 (g (149 + 7 * j + 1) w)) (h2 : i32 (g (149 + 7 * j + 2) w)) (hK1 : g (149 + 7 * j + 1) w < g (149 + 7 * j + 2) w → K 1 g) (hK0 : g (149 + 7 * j + 2) w ≤ g (149 + 7 * j + 1) w → K 0 g) : cI (d + 1) m_X9_hasLaw [(vR (149 + 7 * j)), (vI (w : Int))] dd sh g K := by
  obtain ⟨t0, t1, t2, t3, _⟩ := T_at7 hj
  obtain ⟨r0, r1, r2, _⟩ := rho_t sh j
  refine mkI (ls := [some (vR (149 + 7 * j)), some (vI (w : Int))]) rfl rfl rfl rfl rfl (r_X9_hasLaw_0 ?_)
  rw [r1, r2, lenT t1, lenT t2, show ((w : Int)).toNat = w from rfl]
  exact ⟨⟨by omega, by omega⟩, fun h => absurd h (by omega), fun _ => ⟨fun h => absurd h (by omega), fun _ => ⟨by omega, t0, arT (by omega) t2, by omega, by omega, arT (by omega) t1, by omega, h2, h1, hK0, hK1⟩⟩⟩
theorem s_X2_nameSuspect {d : Nat} {dd : List (Nat × Nat)} {sh : Nat → Nat → Nat} {g : Nat → Nat → Int} {K : (Nat → Nat → Int) → Prop} {p c : Nat} {a : Nat → Int} (hS : RSc g a) (hp : p < 6) (hpa : (p : Int) < a 0) (hK : ∀ g', LF1 g g' → (∀ j, j < 5 → g' 116 j = nmA a p c j) → K g') : cV (d + 1) m_X2_nameSuspect [(vR 115), (vI (p : Int))] dd sh g K := by
  have h1 := hS.pp p hp hpa
  have h2 := hS.pb p hp
  have h3 := hS.night
  refine mkV (ls := [some (vR 115), some (vI ((p : Int))), none]) rfl rfl rfl rfl rfl (r_X2_nameSuspect_0 ?_)
  rw [show ((p : Int)).toNat = p from rfl]
  refine ⟨by omega, by omega, ⟨by omega, by omega⟩, hK _ (fun q h6 h7 => by rw [up_off h6, up_off h6, up_off h6, up_off h6, up_off h6]) fun j hj => ?_⟩
  have hc : j = 0 ∨ j = 1 ∨ j = 2 ∨ j = 3 ∨ j = 4 := by omega
  rcases hc with rfl | rfl | rfl | rfl | rfl
  · simp only [up_at]; exact h3.1
  · simp only [up_at]; exact h1.2.1
  · simp only [up_at]; exact h1.2.2.2.1
  · simp only [up_at]; show (g 5 p).tdiv 10 = (a (18 + 7 * p)).tdiv 10; rw [h1.2.2.1]
  · simp only [up_at]; show (g 5 p).tmod 10 = (a (18 + 7 * p)).tmod 10; rw [h1.2.2.1]
theorem s_X12_name {d : Nat} {dd : List (Nat × Nat)} {sh : Nat → Nat → Nat} {g : Nat → Nat → Int} {K : (Nat → Nat → Int) → Prop} {p c : Nat} (hA : AB (g 135)) (hp : p < 6) (hpa : (p : Int) < g 135 0) (hK : ∀ g', RF1 g g' → (∀ j, j < 5 → g' 140 j = nmA (g 135) p c j) → K g') : cV (d + 2) m_X12_name [(vR 134), (vI (p : Int))] dd sh g K := by
  have h2 := hA.pp p hp hpa
  refine mkV (ls := [some (vR 134), some (vI ((p : Int)))]) rfl rfl rfl rfl rfl (r_X12_name_0 ?_)
  refine s_get1 hp (s_get3 hp (s_get2 hp ⟨⟨?_, ?_⟩, s_get2 hp ⟨⟨?_, ?_⟩, ?_⟩⟩))
  · simp only [up_off (show (135 : Nat) ≠ 140 by decide)]; omega
  · simp only [up_off (show (135 : Nat) ≠ 140 by decide)]; omega
  · simp only [up_off (show (135 : Nat) ≠ 140 by decide)]; omega
  · simp only [up_off (show (135 : Nat) ≠ 140 by decide)]; omega
  · simp only [up_off (show (135 : Nat) ≠ 140 by decide)]
    refine hK _ (fun q h6 h7 => by rw [up_off h6, up_off h6, up_off h6, up_off h6, up_off h6]) fun j hj => ?_
    have hc : j = 0 ∨ j = 1 ∨ j = 2 ∨ j = 3 ∨ j = 4 := by omega
    rcases hc with rfl | rfl | rfl | rfl | rfl <;> simp only [up_at] <;> rfl
/-- what the text at p1 is -/
def TxAt (dd : List (Nat × Nat)) (g : Nat → Nat → Int) (p1 : Nat) (t : Int) : Prop := (t < 0 ∧ p1 = 0) ∨ (0 ≤ t ∧ t < 4 ∧ p1 ≠ 0 ∧ TextOk dd p1 g (g 137) t.toNat)
theorem s_oddsTail {d : Nat} {dd : List (Nat × Nat)} {sh : Nat → Nat → Nat} {g : Nat → Nat → Int} {K : Int → (Nat → Nat → Int) → Prop} {a : Nat → Int} {p c : Nat} {gu : Int} (hA : AB a) (hS : RSc g a) (hp : p < 6) (hpa : (p : Int) < a 0) (hc : c < 7) (hca : (c : Int) < a 1)
    (hK0 : gu = 0 → K 1 g) (hK1 : gu ≠ 0 → K (min (max (a (58 + 4 * c) - (a (19 + 7 * p)).tdiv 2) 0) 10) g) :
    (gu = 0 → K 1 g) ∧ (¬ gu = 0 → (0 ≤ (c : Int)) ∧ ((c : Int) < 7) ∧ (0 ≤ (p : Int)) ∧ ((p : Int) < 6) ∧ (i32 (g 7 (p : Int).toNat)) ∧ cI (d + 1) m_X11_within [(vI ((g 8 (c : Int).toNat) - ((g 7 (p : Int).toNat).tdiv 2))), (vI 0), (vI 10)] dd sh g (fun r17 g18 => K r17 g18)) := by
  have h1 := hS.pp p hp hpa
  have h2 := hS.cc c hc hca
  have h3 := hA.pp p hp hpa
  have h4 := hA.cc c hc hca
  have h5 := td2 (show 0 ≤ a (19 + 7 * p) by omega)
  refine ⟨hK0, fun h => ?_⟩
  rw [show ((p : Int)).toNat = p from rfl, show ((c : Int)).toNat = c from rfl, h1.2.2.2.1, h2.1]
  refine ⟨by omega, by omega, by omega, by omega, ⟨by omega, by omega⟩, s_X11_within ⟨by omega, by omega⟩ ⟨by decide, by decide⟩ ⟨by decide, by decide⟩ (by decide) fun r er => ?_⟩
  rw [er]
  exact hK1 h
theorem s_X2_oddsBy {d : Nat} {dd : List (Nat × Nat)} {sh : Nat → Nat → Nat} {g : Nat → Nat → Int} {K : Int → (Nat → Nat → Int) → Prop} {p1 p c : Nat} {gu t : Int} {a : Nat → Int} (hS : RSc g a) (hp : p < 6) (hpa : (p : Int) < a 0) (hc : c < 7) (hca : (c : Int) < a 1) (hgu : i32 gu) (ht : TxAt dd g p1 t) (hK : ∀ g', LF1 g g' → K (oddsA a (g 137) t p c gu) g') : cI (d + 3) m_X2_oddsBy [(vR 115), (vR p1), (vI (p : Int)), (vI (c : Int)), (vI gu)] dd sh g K := by
  have hA := hS.ab
  have h4 := hA.cc c hc hca
  have hnm := nmA_b hA hp hpa hc hca
  have hsc := hS.cc c hc hca
  refine mkI (ls := [some (vR 115), some (vR p1), some (vI (p : Int)), some (vI (c : Int)), some (vI gu), none, none]) rfl rfl rfl rfl rfl (r_X2_oddsBy_0 ?_)
  refine s_X7_hasBoth hS ⟨by omega, by omega⟩ ⟨by omega, by omega⟩ (fun _ _ _ _ => ⟨⟨by decide, by decide⟩, fun _ => ⟨hgu, fun h0 => ?_, fun h0 => ?_⟩, fun h => absurd h (by decide)⟩) (fun h => absurd h (by omega))
  · have eo : oddsA a (g 137) t p c gu = lawV (g 137) t 1 (nmA a p c) 1 10 := by unfold oddsA; rw [if_pos h0]
    rw [eo] at hK
    rcases ht with ⟨t0, rfl⟩ | ⟨t0, t4, tn, hT⟩
    · have e : lawV (g 137) t 1 (nmA a p c) 1 10 = 1 := by unfold lawV; rw [if_pos t0]
      rw [e] at hK
      exact ⟨fun _ => s_oddsTail hA hS hp hpa hc hca (fun _ => hK g (fun _ _ _ => rfl)) (fun h => absurd h0 h), fun h => absurd rfl h⟩
    · obtain ⟨t, rfl⟩ : ∃ n : Nat, t = n := ⟨t.toNat, by omega⟩
      rw [show ((t : Int)).toNat = t from rfl] at hT
      obtain ⟨j, n, c', h1, h2, h3, h4', h5, h6, h7, h8⟩ := hT
      obtain ⟨y0, y1, y2, y3, _⟩ := T_at7 h1
      subst h2
      refine ⟨fun h => absurd h tn, fun _ => ⟨tn, y0, ?_⟩⟩
      rcases (h8 1 (by decide)).ca h6 with ⟨l1, l2, l3, l4⟩ | ⟨k, lo, hi, l1, l2, l3, l4, l5, l6, l7, l8, l9, l10, l11, l12⟩
      · rw [l4] at hK
        refine s_X9_hasLaw (w := 1) h1 (by decide) ⟨by omega, by omega⟩ ⟨by omega, by omega⟩ (fun h => absurd h (by omega)) (fun _ => ⟨⟨by decide, by decide⟩, fun _ => ?_, fun h => absurd rfl h⟩)
        exact s_oddsTail hA hS hp hpa hc hca (fun _ => hK g (fun _ _ _ => rfl)) (fun h => absurd h0 h)
      · rw [l12] at hK
        refine s_X9_hasLaw (w := 1) h1 (by decide) ⟨by omega, by omega⟩ ⟨by omega, by omega⟩ (fun _ => ⟨⟨by decide, by decide⟩, fun h => absurd h (by decide), fun _ => ?_⟩) (fun h => absurd h (by omega))
        refine s_X2_nameSuspect (c := c) hS hp hpa fun g1 f1 hg1 => ⟨by omega, by omega, ?_⟩
        rw [show ((c : Int)).toNat = c from rfl, f1 8 (by decide) (by decide), f1 9 (by decide) (by decide), hsc.1, hsc.2.1]
        have hb := evX_b l11 (by omega) (fun j hj _ => hnm j hj)
        refine s_X2_run (w := 1) (lo := lo) (hi := hi) (pays := ((1 : Nat) == 2)) (nm := nmA a p c) h1 h4' (by decide) ?_ ?_ l9 l8 (fun i hi1 hi2 => ?_) l11 (fun j hj _ => hnm j hj) (fun j hj _ => ?_) fun g2 f2 => ?_
        · rw [up_off (by omega), up_off (by omega), up_off (by omega), f1 _ (by omega) (by omega)]; exact l4
        · rw [up_off (by omega), up_off (by omega), up_off (by omega), f1 _ (by omega) (by omega)]; exact l5
        · rw [up_off (by omega), up_off (by omega), up_off (by omega), f1 _ (by omega) (by omega)]; exact l10 i hi1 hi2
        · have hcs : j < 5 ∨ j = 5 ∨ j = 6 ∨ j = 7 := by omega
          rcases hcs with h | rfl | rfl | rfl
          · rw [up_at, if_neg (by omega), up_at, if_neg (by omega), up_at, if_neg (by omega)]; exact hg1 j h
          · simp only [up_at]; rfl
          · simp only [up_at]; rfl
          · simp only [up_at]; rfl
        · refine s_X11_within ⟨by omega, by omega⟩ ⟨by decide, by decide⟩ ⟨by decide, by decide⟩ (by decide) fun r er => ?_
          rw [er]
          exact hK g2 (fun q h6' h7' => by rw [f2 q h6' h7', up_off h6', up_off h6', up_off h6', f1 q h6' h7'])
  · have eo : oddsA a (g 137) t p c gu = lawV (g 137) t 0 (nmA a p c) (min (max (a (58 + 4 * c) - (a (19 + 7 * p)).tdiv 2) 0) 10) 10 := by unfold oddsA; rw [if_neg h0]
    rw [eo] at hK
    rcases ht with ⟨t0, rfl⟩ | ⟨t0, t4, tn, hT⟩
    · have e : lawV (g 137) t 0 (nmA a p c) (min (max (a (58 + 4 * c) - (a (19 + 7 * p)).tdiv 2) 0) 10) 10 = min (max (a (58 + 4 * c) - (a (19 + 7 * p)).tdiv 2) 0) 10 := by unfold lawV; rw [if_pos t0]
      rw [e] at hK
      exact ⟨fun _ => s_oddsTail hA hS hp hpa hc hca (fun h => absurd h h0) (fun _ => hK g (fun _ _ _ => rfl)), fun h => absurd rfl h⟩
    · obtain ⟨t, rfl⟩ : ∃ n : Nat, t = n := ⟨t.toNat, by omega⟩
      rw [show ((t : Int)).toNat = t from rfl] at hT
      obtain ⟨j, n, c', h1, h2, h3, h4', h5, h6, h7, h8⟩ := hT
      obtain ⟨y0, y1, y2, y3, _⟩ := T_at7 h1
      subst h2
      refine ⟨fun h => absurd h tn, fun _ => ⟨tn, y0, ?_⟩⟩
      rcases (h8 0 (by decide)).ca h6 with ⟨l1, l2, l3, l4⟩ | ⟨k, lo, hi, l1, l2, l3, l4, l5, l6, l7, l8, l9, l10, l11, l12⟩
      · rw [l4] at hK
        refine s_X9_hasLaw (w := 0) h1 (by decide) ⟨by omega, by omega⟩ ⟨by omega, by omega⟩ (fun h => absurd h (by omega)) (fun _ => ⟨⟨by decide, by decide⟩, fun _ => ?_, fun h => absurd rfl h⟩)
        exact s_oddsTail hA hS hp hpa hc hca (fun h => absurd h h0) (fun _ => hK g (fun _ _ _ => rfl))
      · rw [l12] at hK
        refine s_X9_hasLaw (w := 0) h1 (by decide) ⟨by omega, by omega⟩ ⟨by omega, by omega⟩ (fun _ => ⟨⟨by decide, by decide⟩, fun h => absurd h (by decide), fun _ => ?_⟩) (fun h => absurd h (by omega))
        refine s_X2_nameSuspect (c := c) hS hp hpa fun g1 f1 hg1 => ⟨by omega, by omega, ?_⟩
        rw [show ((c : Int)).toNat = c from rfl, f1 8 (by decide) (by decide), f1 9 (by decide) (by decide), hsc.1, hsc.2.1]
        have hb := evX_b l11 (by omega) (fun j hj _ => hnm j hj)
        refine s_X2_run (w := 0) (lo := lo) (hi := hi) (pays := ((0 : Nat) == 2)) (nm := nmA a p c) h1 h4' (by decide) ?_ ?_ l9 l8 (fun i hi1 hi2 => ?_) l11 (fun j hj _ => hnm j hj) (fun j hj _ => ?_) fun g2 f2 => ?_
        · rw [up_off (by omega), up_off (by omega), up_off (by omega), f1 _ (by omega) (by omega)]; exact l4
        · rw [up_off (by omega), up_off (by omega), up_off (by omega), f1 _ (by omega) (by omega)]; exact l5
        · rw [up_off (by omega), up_off (by omega), up_off (by omega), f1 _ (by omega) (by omega)]; exact l10 i hi1 hi2
        · have hcs : j < 5 ∨ j = 5 ∨ j = 6 ∨ j = 7 := by omega
          rcases hcs with h | rfl | rfl | rfl
          · rw [up_at, if_neg (by omega), up_at, if_neg (by omega), up_at, if_neg (by omega)]; exact hg1 j h
          · simp only [up_at]; rfl
          · simp only [up_at]; rfl
          · simp only [up_at]; rfl
        · refine s_X11_within ⟨by omega, by omega⟩ ⟨by decide, by decide⟩ ⟨by decide, by decide⟩ (by decide) fun r er => ?_
          rw [er]
          exact hK g2 (fun q h6' h7' => by rw [f2 q h6' h7', up_off h6', up_off h6', up_off h6', f1 q h6' h7'])
theorem Inv.txAt {dd : List (Nat × Nat)} {sh : Nat → Nat → Nat} {g : Nat → Nat → Int} (h2 : 0 ≤ g 135 2 ∧ g 135 2 ≤ 4) (hx : RXt dd sh g (g 135) (g 137)) {t : Int} (ht : -1 ≤ t ∧ t < g 135 2) : (t = -1 ∧ TxAt dd g 0 t) ∨ (0 ≤ t ∧ TxAt dd g (sh 51 t.toNat) t) := by
  by_cases h0 : t < 0
  · exact Or.inl ⟨by omega, Or.inl ⟨h0, rfl⟩⟩
  · have hT := hx t.toNat (by omega) (by omega)
    refine Or.inr ⟨by omega, Or.inr ⟨by omega, by omega, ?_, hT⟩⟩
    obtain ⟨j, n, c, h1, h2, _⟩ := hT
    omega
theorem s_X2_oddsNow {d : Nat} {dd : List (Nat × Nat)} {sh : Nat → Nat → Nat} {g : Nat → Nat → Int} {K : Int → (Nat → Nat → Int) → Prop} {p c : Nat} {gu : Int} (hS : RSc g (g 135)) (hH : RHc g (g 135)) (hX : RXt dd sh g (g 135) (g 137)) (hp : p < 6) (hpa : (p : Int) < g 135 0) (hc : c < 7) (hca : (c : Int) < g 135 1) (hgu : i32 gu) (hK : ∀ g', LF1 g g' → K (oddsA (g 135) (g 137) (g 135 3) p c gu) g') : cI (d + 4) m_X2_oddsNow [(vR 115), (vI (p : Int)), (vI (c : Int)), (vI gu)] dd sh g K := by
  have hr := hH.ru
  have htx := hH.tx
  refine mkI (ls := [some (vR 115), some (vI ((p : Int))), some (vI ((c : Int))), some (vI gu)]) rfl rfl rfl rfl rfl (r_X2_oddsNow_0 ?_)
  rw [hr.1]
  refine s_X1_textOf hH ⟨by omega, by omega⟩ (fun h => ?_) (fun h => ?_)
  · rcases Inv.txAt htx.2 hX hr.2 with h' | h'
    · omega
    · exact s_X2_oddsBy hS hp hpa hc hca hgu h'.2 hK
  · rcases Inv.txAt htx.2 hX hr.2 with h' | h'
    · exact s_X2_oddsBy hS hp hpa hc hca hgu h'.2 hK
    · omega
theorem TextOk.fr {dd : List (Nat × Nat)} {q : Nat} {g g' : Nat → Nat → Int} {T : Nat → Int} {t : Nat} (H : TextOk dd q g T t) (eg : ∀ q, 149 ≤ q → g' q = g q) : TextOk dd q g' T t := by
  obtain ⟨j, n, c, h1, h2, h3, h4, h5, h6, h7, h8⟩ := H
  refine ⟨j, n, c, h1, h2, h3, h4, by rw [eg _ (by omega)]; exact h5, h6, fun k hk => ?_, fun w hw => ?_⟩
  · have := h7 k hk
    unfold ClOk at this ⊢
    rw [eg (q + 4) (by omega), eg (q + 5) (by omega), eg (q + 6) (by omega)]
    exact this
  · have := h8 w hw
    unfold LawOk at this ⊢
    rw [eg (q + 1) (by omega), eg (q + 2) (by omega), eg (q + 3) (by omega)]
    exact this
theorem s_X12_oddsOf {d : Nat} {dd : List (Nat × Nat)} {sh : Nat → Nat → Nat} {g : Nat → Nat → Int} {K : Int → (Nat → Nat → Int) → Prop} {p c : Nat} {gu t : Int} (hA : AB (g 135)) (ht : t < 0 ∨ (0 ≤ t ∧ t < 4 ∧ ∃ q, TextOk dd q g (g 137) t.toNat)) (hti : i32 t) (hp : p < 6) (hpa : (p : Int) < g 135 0) (hc : c < 7) (hca : (c : Int) < g 135 1) (hgu : i32 gu) (hK : ∀ g', RF1 g g' → K (oddsA (g 135) (g 137) t p c gu) g') : cI (d + 5) m_X12_oddsOf [(vR 134), (vI t), (vI (p : Int)), (vI (c : Int)), (vI gu)] dd sh g K := by
  have h3 := hA.pp p hp hpa
  have h4 := hA.cc c hc hca
  have h5 := td2 (show 0 ≤ g 135 (19 + 7 * p) by omega)
  have hnm := nmA_b hA hp hpa hc hca
  refine mkI (ls := [some (vR 134), some (vI t), some (vI (p : Int)), some (vI (c : Int)), some (vI gu), none]) rfl rfl rfl rfl rfl (r_X12_oddsOf_0 ?_)
  refine s_X12_name (c := c) hA hp hpa fun g1 f1 hg1 => ?_
  have e135 : g1 135 = g 135 := f1 135 (by decide) (by decide)
  refine s_of0 hc (s_of1 hc (s_of0 hc (s_get3 hp ?_)))
  simp only [up_off (show (135 : Nat) ≠ 140 by decide), e135]
  refine ⟨⟨by omega, by omega⟩, ⟨by omega, by omega⟩, s_X12_bounded ⟨by omega, by omega⟩ ⟨by decide, by decide⟩ ⟨by decide, by decide⟩ (by decide) fun r er => ⟨hgu, fun h0 => ?_, fun h0 => ?_⟩⟩
  all_goals
    have ex : ∀ q, 149 ≤ q → up (up (up g1 140 5 (g 135 (58 + 4 * c))) 140 6 (g 135 (59 + 4 * c))) 140 7 (c : Int) q = g q := fun q hq => by rw [up_off (by omega), up_off (by omega), up_off (by omega), f1 q (by omega) (by omega)]
    have e137 : up (up (up g1 140 5 (g 135 (58 + 4 * c))) 140 6 (g 135 (59 + 4 * c))) 140 7 (c : Int) 137 = g 137 := by rw [up_off (by omega), up_off (by omega), up_off (by omega), f1 137 (by omega) (by omega)]
    have hnn : ∀ j, j < 8 → up (up (up g1 140 5 (g 135 (58 + 4 * c))) 140 6 (g 135 (59 + 4 * c))) 140 7 (c : Int) 140 j = nmA (g 135) p c j := fun j hj => by
      have hcs : j < 5 ∨ j = 5 ∨ j = 6 ∨ j = 7 := by omega
      rcases hcs with h | rfl | rfl | rfl
      · rw [up_at, if_neg (by omega), up_at, if_neg (by omega), up_at, if_neg (by omega)]; exact hg1 j h
      · simp only [up_at]; rfl
      · simp only [up_at]; rfl
      · simp only [up_at]; rfl
    have ht' : t < 0 ∨ (0 ≤ t ∧ t < 4 ∧ ∃ q, TextOk dd q (up (up (up g1 140 5 (g 135 (58 + 4 * c))) 140 6 (g 135 (59 + 4 * c))) 140 7 (c : Int)) ((up (up (up g1 140 5 (g 135 (58 + 4 * c))) 140 6 (g 135 (59 + 4 * c))) 140 7 (c : Int)) 137) t.toNat) := by
      rcases ht with h | ⟨h1, h2, q, hq⟩
      · exact Or.inl h
      · refine Or.inr ⟨h1, h2, q, ?_⟩
        rw [e137]
        exact hq.fr ex
  · have eo : oddsA (g 135) (g 137) t p c gu = lawV (g 137) t 1 (nmA (g 135) p c) 1 10 := by unfold oddsA; rw [if_pos h0]
    rw [eo] at hK
    refine s_X12_says (w := 1) (nm := nmA (g 135) p c) ht' hti (by decide) (by decide) ⟨by decide, by decide⟩ (fun j hj _ => hnm j hj) (fun j hj _ => hnn j hj) fun g' f' => ?_
    rw [e137]
    exact hK g' (fun q h6 h7 => by rw [f' q h6 h7, up_off h6, up_off h6, up_off h6, f1 q h6 h7])
  · have eo : oddsA (g 135) (g 137) t p c gu = lawV (g 137) t 0 (nmA (g 135) p c) r 10 := by unfold oddsA; rw [if_neg h0, er]
    rw [eo] at hK
    refine s_X12_says (w := 0) (nm := nmA (g 135) p c) ht' hti (by decide) (by decide) ⟨by decide, by decide⟩ (fun j hj _ => hnm j hj) (fun j hj _ => hnn j hj) fun g' f' => ?_
    rw [e137]
    exact hK g' (fun q h6 h7 => by rw [f' q h6 h7, up_off h6, up_off h6, up_off h6, f1 q h6 h7])
