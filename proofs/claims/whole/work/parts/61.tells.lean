-- what tells most, whose text, unseen
def ab (x : Int) : Int := if 0 ≤ x then x else -x
theorem ab_e {x r : Int} (h : 0 ≤ r) (h2 : r = x ∨ r = -x) : r = ab x := by unfold ab; split <;> omega
theorem ab_b {x : Int} (h : -10 ≤ x ∧ x ≤ 10) : 0 ≤ ab x ∧ ab x ≤ 10 := by unfold ab; split <;> omega
theorem mulb {x y m n : Int} (hx : 0 ≤ x ∧ x ≤ m) (hy : 0 ≤ y ∧ y ≤ n) : 0 ≤ x * y ∧ x * y ≤ m * n := ⟨Int.mul_nonneg hx.1 hy.1, Int.mul_le_mul hx.2 hy.2 hy.1 (by omega)⟩
noncomputable def teF (a T : Nat → Int) (c p : Nat) : Int := a (22 + 7 * p) * ab (oddsA a T (a 3) p c 1 - oddsA a T (a 3) p c 0)
noncomputable def teA (a T : Nat → Int) (n c : Nat) : Int := sm (teF a T c) n
theorem teF_b {a T : Nat → Int} {c p : Nat} (hw : 0 ≤ a (22 + 7 * p) ∧ a (22 + 7 * p) ≤ 99) : 0 ≤ teF a T c p ∧ teF a T c p ≤ 990 := by
  have h1 := oddsA_b a T (a 3) p c 1
  have h0 := oddsA_b a T (a 3) p c 0
  have := mulb hw (ab_b (x := oddsA a T (a 3) p c 1 - oddsA a T (a 3) p c 0) (by omega))
  exact this
theorem Inv.w {dd : List (Nat × Nat)} {sh : Nat → Nat → Nat} {g : Nat → Nat → Int} (hI : Inv dd sh g) {p : Nat} (hp : p < 6) (hpa : (p : Int) < g 135 0) : g 12 p = g 135 (22 + 7 * p) ∧ 0 ≤ g 135 (22 + 7 * p) ∧ g 135 (22 + 7 * p) ≤ 99 := by
  have := hI.nn.ww p hp
  have h2 := this.1 hpa
  omega
theorem s_X0_mostTelling {d : Nat} {dd : List (Nat × Nat)} {sh : Nat → Nat → Nat} {g : Nat → Nat → Int} {K : Int → (Nat → Nat → Int) → Prop} {g0 : Nat → Nat → Int} {n m : Nat} (hI : Inv dd sh g0) (hs : ClScr g0 g) (hn : g0 135 0 = n) (hm : g0 135 1 = m) (hK : ∀ g', ClScr g0 g' → K (am (teA (g0 135) (g0 137) n) (-1) m).1 g') : cI (d + 5) m_X0_mostTelling [(vR 121)] dd sh g K := by
  have en := hI.s.n
  have em := hI.s.m
  have hb : ∀ c, 0 ≤ teA (g0 135) (g0 137) n c ∧ teA (g0 135) (g0 137) n c ≤ n * 990 := fun c => sm_bound fun p hp => teF_b (hI.w (by omega) (by omega)).2
  refine mkI (ls := [some (vR 121), none, none, none, none, none, none]) rfl rfl rfl rfl rfl (r_X0_mostTelling_0 ?_)
  refine loop (P := fun k => ∀ g', ClScr g0 g' → rI (d + 4) m_X0_mostTelling 6 [some (vR 121), some (vI ((am (teA (g0 135) (g0 137) n) (-1) k).1)), some (vI ((am (teA (g0 135) (g0 137) n) (-1) k).2)), some (vI ((k : Int))), none, none, none] [] dd sh (g') K) (n := m) ?_ ?_ 0 (by omega) g hs
  · intro g' hs'
    refine r_X0_mostTelling_6 ?_
    rw [hs' 3 (by omega)]
    exact ⟨⟨by omega, by omega⟩, ⟨by omega, by omega⟩, fun _ => hK g' hs', fun h => absurd h (by omega)⟩
  · intro k hk ih g' hs'
    have hm2 : i32 (am (teA (g0 135) (g0 137) n) (-1) k).2 := by
      rcases am_inv (teA (g0 135) (g0 137) n) (-1) k with e | ⟨j, hj, e, -⟩
      · rw [e]; exact ⟨by decide, by decide⟩
      · rw [e]; have := hb j; exact ⟨by show _ ≤ teA (g0 135) (g0 137) n j; omega, by show teA (g0 135) (g0 137) n j ≤ _; omega⟩
    have hbk := hb k
    refine r_X0_mostTelling_6 ?_
    rw [hs' 3 (by omega)]
    refine ⟨⟨by omega, by omega⟩, ⟨by omega, by omega⟩, fun h => absurd h (by omega), fun _ => ?_⟩
    refine loop (P := fun p => ∀ g', ClScr g0 g' → rI (d + 4) m_X0_mostTelling 23 [some (vR 121), some (vI ((am (teA (g0 135) (g0 137) n) (-1) k).1)), some (vI ((am (teA (g0 135) (g0 137) n) (-1) k).2)), some (vI ((k : Int))), some (vI (sm (teF (g0 135) (g0 137) k) p)), some (vI ((p : Int))), none] [] dd sh (g') K) (n := n) ?_ ?_ 0 (by omega) g' hs'
    · intro g' hs'
      refine r_X0_mostTelling_23 ?_
      rw [hs' 3 (by omega)]
      refine ⟨⟨by omega, by omega⟩, ⟨by omega, by omega⟩, fun _ => ⟨⟨?_, ?_⟩, hm2, fun h => ?_, fun h => ?_⟩, fun h => absurd h (by omega)⟩
      · show _ ≤ teA (g0 135) (g0 137) n k; omega
      · show teA (g0 135) (g0 137) n k ≤ _; omega
      · have h8 := ih g' hs'
        rw [show am (teA (g0 135) (g0 137) n) (-1) (k + 1) = am (teA (g0 135) (g0 137) n) (-1) k from if_neg (Int.not_lt.mpr h)] at h8
        exact h8
      · have h8 := ih g' hs'
        rw [show am (teA (g0 135) (g0 137) n) (-1) (k + 1) = ((k : Int), teA (g0 135) (g0 137) n k) from if_pos h] at h8
        exact h8
    · intro p hp ih2 g' hs'
      have hw := hI.w (p := p) (by omega) (by omega)
      refine r_X0_mostTelling_23 ?_
      rw [hs' 3 (by omega)]
      refine ⟨⟨by omega, by omega⟩, ⟨by omega, by omega⟩, fun h => absurd h (by omega), fun _ => ?_⟩
      refine o_now hI hs' (by omega) (by omega) (by omega) (by omega) ⟨by decide, by decide⟩ fun g1 f1 hs1 => ?_
      refine o_now hI hs1 (by omega) (by omega) (by omega) (by omega) ⟨by decide, by decide⟩ fun g2 f2 hs2 => ⟨by omega, by omega, ?_⟩
      have h1 := oddsA_b (g0 135) (g0 137) (g0 135 3) p k 1
      have h0 := oddsA_b (g0 135) (g0 137) (g0 135 3) p k 0
      refine s_J9_abs ⟨by omega, by omega⟩ fun r hr0 hr => ?_
      rw [ab_e hr0 hr, hs2 12 (by omega), show ((p : Int)).toNat = p from rfl, hw.1]
      exact ih2 g2 hs2
theorem s_X12_telling {d : Nat} {dd : List (Nat × Nat)} {sh : Nat → Nat → Nat} {g : Nat → Nat → Int} {K : Int → (Nat → Nat → Int) → Prop} {g0 g1 : Nat → Nat → Int} {n c : Nat} (hI : Inv dd sh g0) (hs : ClScr g0 g1) (hr : RefScr g1 g) (hn : g0 135 0 = n) (hc : c < 7) (hca : (c : Int) < g0 135 1) (hK : ∀ g', RefScr g1 g' → K (teA (g0 135) (g0 137) n c) g') : cI (d + 6) m_X12_telling [(vR 134), (vI (c : Int))] dd sh g K := by
  have en := hI.s.n
  have hru := hI.h.ru
  have htx := hI.h.tx
  refine mkI (ls := [some (vR 134), some (vI ((c : Int))), none, none]) rfl rfl rfl rfl rfl (r_X12_telling_0 ?_)
  refine loop (P := fun p => ∀ g', RefScr g1 g' → rI (d + 5) m_X12_telling 4 [some (vR 134), some (vI ((c : Int))), some (vI (sm (teF (g0 135) (g0 137) c) p)), some (vI ((p : Int)))] [] dd sh (g') K) (n := n) ?_ ?_ 0 (by omega) g hr
  · intro g' hr'
    have e5 := (RE.of hs hr').1
    refine r_X12_telling_4 ?_
    rw [e5]
    exact ⟨⟨by omega, by omega⟩, ⟨by omega, by omega⟩, fun _ => hK g' hr', fun h => absurd h (by omega)⟩
  · intro p hp ih g' hr'
    have e5 := (RE.of hs hr').1
    refine r_X12_telling_4 ?_
    rw [e5]
    refine ⟨⟨by omega, by omega⟩, ⟨by omega, by omega⟩, fun h => absurd h (by omega), fun _ => ?_⟩
    have h1 := oddsA_b (g0 135) (g0 137) (g0 135 3) p c 1
    have h0 := oddsA_b (g0 135) (g0 137) (g0 135 3) p c 0
    refine s_get6 (by omega) ?_
    rw [e5]
    refine o_of hI (RE.of hs hr') (by omega) ⟨by omega, by omega⟩ (by omega) (by omega) hc hca ⟨by decide, by decide⟩ fun g2 f2 => ?_
    have e5' := (RE.of hs (hr'.tr f2.scr)).1
    rw [e5']
    refine o_of hI (RE.of hs (hr'.tr f2.scr)) (by omega) ⟨by omega, by omega⟩ (by omega) (by omega) hc hca ⟨by decide, by decide⟩ fun g3 f3 => ?_
    refine s_X12_size ⟨by omega, by omega⟩ fun r hr0 hr => ?_
    rw [ab_e hr0 hr]
    exact ih g3 ((hr'.tr f2.scr).tr f3.scr)
theorem sim_tellsMost : S_tellsMost := by
  intro dd sh g hI
  have hA := hI.s.ab
  have en := hA.n
  have em := hA.m
  obtain ⟨n, hn⟩ := Int.eq_ofNat_of_zero_le en.1
  obtain ⟨m, hm⟩ := Int.eq_ofNat_of_zero_le em.1
  have hb : ∀ c, 0 ≤ teA (g 135) (g 137) n c ∧ teA (g 135) (g 137) n c ≤ n * 990 := fun c => sm_bound fun p hp => teF_b (hI.w (by omega) (by omega)).2
  unfold SimI
  refine mkI (ls := [some (vR 1)]) rfl rfl rfl rfl rfl (r_X11_tellsMost_0 ?_)
  refine s_X0_mostTelling hI ClScr.rf hn hm fun g1 hs => ?_
  have hres := am_i32 (teA (g 135) (g 137) n) (-1) (n := m) (by omega)
  refine mkI (ls := [some (vR 134), none, none]) rfl rfl rfl rfl rfl (r_X12_tellsMost_0 ?_)
  refine loop (P := fun k => ∀ g', RefScr g1 g' → rI 199 m_X12_tellsMost 4 [some (vR 134), some (vI ((am (teA (g 135) (g 137) n) (-1) k).1)), some (vI ((k : Int)))] [] dd sh (g') (fun r' g3 => (am (teA (g 135) (g 137) n) (-1) m).1 = r' ∧ i32 (am (teA (g 135) (g 137) n) (-1) m).1 ∧ Inv dd sh g3)) (n := m) ?_ ?_ 0 (by omega) g1 RefScr.rf
  · intro g' hr
    refine r_X12_tellsMost_4 ?_
    rw [(RE.of hs hr).1]
    exact ⟨⟨by omega, by omega⟩, ⟨by omega, by omega⟩, fun _ => ⟨rfl, hres, hI.scr hs hr⟩, fun h => absurd h (by omega)⟩
  · intro k hk ih g' hr
    have hbk := hb k
    refine r_X12_tellsMost_4 ?_
    rw [(RE.of hs hr).1]
    refine ⟨⟨by omega, by omega⟩, ⟨by omega, by omega⟩, fun h => absurd h (by omega), fun _ => ⟨am_i32 _ _ (by omega), fun h => ?_, fun h => ?_⟩⟩
    · have h8 := ih g' hr
      rcases am_inv (teA (g 135) (g 137) n) (-1) k with e | ⟨j, hj, e, -⟩
      · rw [show am (teA (g 135) (g 137) n) (-1) (k + 1) = ((k : Int), teA (g 135) (g 137) n k) from if_pos (by rw [e]; show (-1 : Int) < _; omega)] at h8
        exact h8
      · rw [e] at h
        have h' : (j : Int) = -1 := h
        omega
    · rcases am_inv (teA (g 135) (g 137) n) (-1) k with e | ⟨j, hj, e, -⟩
      · rw [e] at h; exact absurd rfl h
      · have hbj := hb j
        rw [e]
        refine s_X12_telling hI hs hr hn (by omega) (by omega) fun g2 hr2 => ?_
        refine s_X12_telling (c := j) hI hs hr2 hn (by omega) (by omega) fun g3 hr3 => ⟨⟨by omega, by omega⟩, ⟨by omega, by omega⟩, fun h9 => ?_, fun h9 => ?_⟩
        · have h8 := ih g3 hr3
          rw [show am (teA (g 135) (g 137) n) (-1) (k + 1) = am (teA (g 135) (g 137) n) (-1) k from if_neg (by rw [e]; exact Int.not_lt.mpr h9), e] at h8
          exact h8
        · have h8 := ih g3 hr3
          rw [show am (teA (g 135) (g 137) n) (-1) (k + 1) = ((k : Int), teA (g 135) (g 137) n k) from if_pos (by rw [e]; exact h9)] at h8
          exact h8
-- whose
noncomputable def fiF (a T : Nat → Int) (t : Int) : Nat → Int
  | 0 => 1
  | k + 1 => if fiF a T t k = 0 then 0 else if oddsA a T t (a (150 + 3 * k)).toNat (a (151 + 3 * k)).toNat 1 = a (152 + 3 * k) then 1 else 0
theorem fiF_b (a T : Nat → Int) (t : Int) (k : Nat) : fiF a T t k = 0 ∨ fiF a T t k = 1 := by
  cases k with
  | zero => exact Or.inr rfl
  | succ k => unfold fiF; split <;> (try split) <;> omega
theorem fiF_zero {a T : Nat → Int} {t : Int} {k : Nat} (h : fiF a T t k = 0) : ∀ n, k ≤ n → fiF a T t n = 0 := by
  intro n hn
  induction hn with
  | refl => exact h
  | step _ ih => unfold fiF; rw [if_pos ih]
theorem s_X0_fits {d : Nat} {dd : List (Nat × Nat)} {sh : Nat → Nat → Nat} {g : Nat → Nat → Int} {K : Int → (Nat → Nat → Int) → Prop} {g0 : Nat → Nat → Int} {n q : Nat} {t : Int} (hI : Inv dd sh g0) (hs : ClScr g0 g) (hn : g0 135 8 = n) (ht : TxAt dd g0 q t) (hK : ∀ g', ClScr g0 g' → K (fiF (g0 135) (g0 137) t n) g') : cI (d + 4) m_X0_fits [(vR 121), (vR q)] dd sh g K := by
  have en := hI.s.n
  have em := hI.s.m
  have hs3 := hI.nn.s3
  refine mkI (ls := [some (vR 121), some (vR q), none, none, none]) rfl rfl rfl rfl rfl (r_X0_fits_0 ?_)
  refine loop (P := fun k => ∀ g', ClScr g0 g' → fiF (g0 135) (g0 137) t k = 1 → rI (d + 3) m_X0_fits 2 [some (vR 121), some (vR q), some (vI ((k : Int))), none, none] [] dd sh (g') K) (n := n) ?_ ?_ 0 (by omega) g hs rfl
  · intro g' hs' h1
    have := hK g' hs'
    rw [h1] at this
    refine r_X0_fits_2 ?_
    rw [hs' 14 (by omega)]
    exact ⟨⟨by omega, by omega⟩, ⟨by omega, by omega⟩, fun _ => this, fun h => absurd h (by omega)⟩
  · intro k hk ih g' hs' h1
    have l3 := hI.nn.l3 k (by omega)
    obtain ⟨p, hp⟩ := Int.eq_ofNat_of_zero_le l3.2.1.1
    obtain ⟨c, hc⟩ := Int.eq_ofNat_of_zero_le l3.2.2.1.1
    have hv : ∀ g', ClScr g0 g' → g' 19 k = (g0 135 (150 + 3 * k) * 16 + g0 135 (151 + 3 * k)) * 16 + g0 135 (152 + 3 * k) := fun g' h => by rw [h 19 (by omega)]; exact l3.1
    refine r_X0_fits_2 ?_
    rw [hs' 14 (by omega)]
    refine ⟨⟨by omega, by omega⟩, ⟨by omega, by omega⟩, fun h => absurd h (by omega), fun _ => ?_⟩
    refine s_one3 (by omega) (hv g' hs') (by omega) (by omega) (by omega) (s_other3 (by omega) (hv g' hs') (by omega) (by omega) (by omega) ?_)
    have hf : fiF (g0 135) (g0 137) t (k + 1) = if oddsA (g0 135) (g0 137) t p c 1 = g0 135 (152 + 3 * k) then 1 else 0 := by
      show (if fiF (g0 135) (g0 137) t k = 0 then 0 else if oddsA (g0 135) (g0 137) t (g0 135 (150 + 3 * k)).toNat (g0 135 (151 + 3 * k)).toNat 1 = g0 135 (152 + 3 * k) then 1 else 0) = _
      rw [if_neg (by omega), hp, hc]; rfl
    rw [hp, hc]
    have hob := oddsA_b (g0 135) (g0 137) t p c 1
    refine o_by hI hs' (by omega) (by omega) (by omega) (by omega) ⟨by decide, by decide⟩ ht fun g1 f1 hs1 => ?_
    refine s_what3 (by omega) (hv g1 hs1) (by omega) (by omega) (by omega) ⟨⟨by omega, by omega⟩, ⟨by omega, by omega⟩, fun h => ?_, fun h => ?_⟩
    · rw [if_pos h] at hf
      exact ih g1 hs1 hf
    · rw [if_neg h] at hf
      have := hK g1 hs1
      rw [fiF_zero hf n (by omega)] at this
      exact this
noncomputable def whF (a T : Nat → Int) (n t : Nat) : Int := if fiF a T (t : Int) n = 0 then 0 else (1 : Int) * 2 ^ t
theorem whF_b (a T : Nat → Int) (n : Nat) {t : Nat} (h : t < 4) : 0 ≤ whF a T n t ∧ whF a T n t < 2 ^ 4 := by
  unfold whF
  split
  · exact ⟨Int.le_refl _, by decide⟩
  · rw [Int.one_mul]
    have h1 := pow2_pos t
    have h2 := pow2_le (q := t) (p := 3) (by omega)
    omega
theorem sim_whose : S_whose := by
  intro dd sh g hI
  have hA := hI.s.ab
  have en := hA.n
  have em := hA.m
  have htx := hI.h.tx
  have hs3 := hI.nn.s3
  obtain ⟨m, hm⟩ := Int.eq_ofNat_of_zero_le htx.2.1
  obtain ⟨n, hn⟩ := Int.eq_ofNat_of_zero_le hs3.2.1
  have hb := fo_bound (f := whF (g 135) (g 137) n) (n := m) (q := 4) (by decide) fun k hk => whF_b _ _ _ (by omega)
  have hbk : ∀ k, k ≤ m → 0 ≤ fo (whF (g 135) (g 137) n) k ∧ fo (whF (g 135) (g 137) n) k < 2 ^ 4 := fun k hk => fo_bound (by decide) fun j hj => whF_b _ _ _ (by omega)
  unfold SimI
  refine mkI (ls := [some (vR 1)]) rfl rfl rfl rfl rfl (r_X11_whose_0 ?_)
  have hK : ∀ g1, ClScr g g1 → cI 200 m_X12_whose [vR 134] dd sh g1 (fun r' g3 => fo (whF (g 135) (g 137) n) m = r' ∧ i32 (fo (whF (g 135) (g 137) n) m) ∧ Inv dd sh g3) := by
    intro g1 hs
    refine mkI (ls := [some (vR 134), none, none, none, none]) rfl rfl rfl rfl rfl (r_X12_whose_0 ?_)
    refine loop (P := fun k => ∀ g', RefScr g1 g' → rI 199 m_X12_whose 4 [some (vR 134), some (vI (fo (whF (g 135) (g 137) n) k)), some (vI ((k : Int))), none, none] [] dd sh (g') (fun r' g3 => fo (whF (g 135) (g 137) n) m = r' ∧ i32 (fo (whF (g 135) (g 137) n) m) ∧ Inv dd sh g3)) (n := m) ?_ ?_ 0 (by omega) g1 RefScr.rf
    · intro g' hr
      refine r_X12_whose_4 ?_
      rw [(RE.of hs hr).1]
      exact ⟨⟨by omega, by omega⟩, ⟨by omega, by omega⟩, fun _ => ⟨rfl, ⟨by omega, by omega⟩, hI.scr hs hr⟩, fun h => absurd h (by omega)⟩
    · intro t ht ih g' hr
      refine r_X12_whose_4 ?_
      rw [(RE.of hs hr).1]
      refine ⟨⟨by omega, by omega⟩, ⟨by omega, by omega⟩, fun h => absurd h (by omega), fun _ => ?_⟩
      refine loop (P := fun k => ∀ g', RefScr g1 g' → rI 199 m_X12_whose 19 [some (vR 134), some (vI (fo (whF (g 135) (g 137) n) t)), some (vI ((t : Int))), some (vI (fiF (g 135) (g 137) t k)), some (vI ((k : Int)))] [] dd sh (g') (fun r' g3 => fo (whF (g 135) (g 137) n) m = r' ∧ i32 (fo (whF (g 135) (g 137) n) m) ∧ Inv dd sh g3)) (n := n) ?_ ?_ 0 (by omega) g' hr
      · intro g' hr
        have h8 := ih g' hr
        have hf := fiF_b (g 135) (g 137) t n
        refine r_X12_whose_19 ?_
        rw [(RE.of hs hr).1]
        refine ⟨⟨by omega, by omega⟩, ⟨by omega, by omega⟩, fun _ => ⟨⟨by omega, by omega⟩, fun h => ?_, fun h => ⟨by omega, by omega, ?_⟩⟩, fun h => absurd h (by omega)⟩
        · rw [show fo (whF (g 135) (g 137) n) (t + 1) = ior (fo (whF (g 135) (g 137) n) t) (whF (g 135) (g 137) n t) from rfl, show whF (g 135) (g 137) n t = 0 from if_pos h] at h8
          exact h8
        · rw [show fo (whF (g 135) (g 137) n) (t + 1) = ior (fo (whF (g 135) (g 137) n) t) (whF (g 135) (g 137) n t) from rfl, show whF (g 135) (g 137) n t = (1 : Int) * 2 ^ t from if_neg h] at h8
          exact h8
      · intro k hk ih2 g' hr
        have hf := fiF_b (g 135) (g 137) t k
        have l3 := hI.nn.l3 k (by omega)
        obtain ⟨p, hp⟩ := Int.eq_ofNat_of_zero_le l3.2.1.1
        obtain ⟨c, hc⟩ := Int.eq_ofNat_of_zero_le l3.2.2.1.1
        have hstep : fiF (g 135) (g 137) t (k + 1) = if fiF (g 135) (g 137) t k = 0 then 0 else if oddsA (g 135) (g 137) t p c 1 = g 135 (152 + 3 * k) then 1 else 0 := by
          show (if fiF (g 135) (g 137) t k = 0 then 0 else if oddsA (g 135) (g 137) t (g 135 (150 + 3 * k)).toNat (g 135 (151 + 3 * k)).toNat 1 = g 135 (152 + 3 * k) then 1 else 0) = _
          rw [hp, hc]; rfl
        refine r_X12_whose_19 ?_
        rw [(RE.of hs hr).1, show (150 + 3 * (k : Int)).toNat = 150 + 3 * k by omega, show (150 + 3 * (k : Int) + 1).toNat = 151 + 3 * k by omega, show (150 + 3 * (k : Int) + 2).toNat = 152 + 3 * k by omega, hp, hc]
        refine ⟨⟨by omega, by omega⟩, ⟨by omega, by omega⟩, fun h => absurd h (by omega), fun _ => ⟨⟨by omega, by omega⟩, fun h => ?_, fun h => ⟨by omega, by omega, by omega, by omega, ?_⟩⟩⟩
        · have h8 := ih2 g' hr
          rw [hstep, if_pos h] at h8
          exact h8
        · have hob := oddsA_b (g 135) (g 137) t p c 1
          refine o_of hI (RE.of hs hr) (by omega) ⟨by omega, by omega⟩ (by omega) (by omega) (by omega) (by omega) ⟨by decide, by decide⟩ fun g2 f2 => ?_
          have h8 := ih2 g2 (hr.tr f2.scr)
          rw [hstep, if_neg h] at h8
          rw [(RE.of hs (hr.tr f2.scr)).1]
          refine ⟨by omega, by omega, ⟨by omega, by omega⟩, ⟨by omega, by omega⟩, fun h => ?_, fun h => ?_⟩
          · rw [if_neg h] at h8; exact h8
          · rw [if_pos h] at h8; exact h8
  refine mkI (ls := [some (vR 121), none, none]) rfl rfl rfl rfl rfl (r_X0_textsThatFit_0 ?_)
  refine loop (P := fun k => ∀ g', ClScr g g' → rI 198 m_X0_textsThatFit 4 [some (vR 121), some (vI (fo (whF (g 135) (g 137) n) k)), some (vI ((k : Int)))] [] dd sh (g') (fun r1 g2 => cI 200 m_X12_whose [vR 134] dd sh g2 (fun r' g3 => r1 = r' ∧ i32 r1 ∧ Inv dd sh g3))) (n := m) ?_ ?_ 0 (by omega) g ClScr.rf
  · intro g' hs
    refine r_X0_textsThatFit_4 ?_
    rw [hs 2 (by omega)]
    exact ⟨⟨by omega, by omega⟩, ⟨by omega, by omega⟩, fun _ => hK g' hs, fun h => absurd h (by omega)⟩
  · intro t ht ih g' hs
    have hbt := hbk t (by omega)
    refine r_X0_textsThatFit_4 ?_
    rw [hs 2 (by omega)]
    refine ⟨⟨by omega, by omega⟩, ⟨by omega, by omega⟩, fun h => absurd h (by omega), fun _ => ?_⟩
    refine s_X1_textOf (hs.h hI.h) ⟨by omega, by omega⟩ (fun _ => ?_) (fun h => absurd h (by omega))
    rcases Inv.txAt htx.2 hI.xt (t := (t : Int)) (by omega) with h' | h'
    · omega
    · rw [show ((t : Int)).toNat = t from rfl] at h' ⊢
      refine s_X0_fits hI hs hn h'.2 fun g2 hs2 => ?_
      have h8 := ih g2 hs2
      have hf := fiF_b (g 135) (g 137) t n
      refine ⟨⟨by omega, by omega⟩, fun h => ?_, fun h => ⟨by omega, by omega, ?_⟩⟩
      · rw [show fo (whF (g 135) (g 137) n) (t + 1) = ior (fo (whF (g 135) (g 137) n) t) (whF (g 135) (g 137) n t) from rfl, show whF (g 135) (g 137) n t = 0 from if_pos h, ior_zero hbt.1 (by omega)] at h8
        exact h8
      · rw [show fo (whF (g 135) (g 137) n) (t + 1) = ior (fo (whF (g 135) (g 137) n) t) (whF (g 135) (g 137) n t) from rfl, show whF (g 135) (g 137) n t = (1 : Int) * 2 ^ t from if_neg h] at h8
        exact h8
