-- calls that change a cell or a list
theorem s_X11_weight {d : Nat} {dd : List (Nat × Nat)} {sh : Nat → Nat → Nat} {g : Nat → Nat → Int} {K : Int → (Nat → Nat → Int) → Prop} {v1 v2 : Int} {a : Nat → Int} (hS : RSc g a) (h1 : i32 v1) (h2 : i32 v2) (hK : (0 ≤ v1 ∧ v1 < a 0) ∧ 0 ≤ v2 ∧ v2 ≤ 99 → K 1 (up g 12 v1.toNat v2)) (hK0 : ¬ ((0 ≤ v1 ∧ v1 < a 0) ∧ 0 ≤ v2 ∧ v2 ≤ 99) → K 0 g) : cI (d + 2) m_X11_weight [(vR 1), (vI v1), (vI v2)] dd sh g K := by
  have en := hS.n
  refine mkI (ls := [some (vR 1), some (vI v1), some (vI v2)]) rfl rfl rfl rfl rfl (r_X11_weight_0 ?_)
  refine s_X7_hasSuspect hS h1 (fun _ _ => ?_) (fun _ => ?_)
  · repeat' (first
      | (refine imp_mk ?_; intro hh; first | contradiction | (exfalso; omega) | skip)
      | (exact hK (by omega))
      | (exact hK0 (by omega))
      | refine And.intro ?_ ?_
      | omega)
  · repeat' (first
      | (refine imp_mk ?_; intro hh; first | contradiction | (exfalso; omega) | skip)
      | (exact hK0 (by omega))
      | refine And.intro ?_ ?_
      | omega)
theorem s_X12_weight {d : Nat} {dd : List (Nat × Nat)} {sh : Nat → Nat → Nat} {g : Nat → Nat → Int} {K : Int → (Nat → Nat → Int) → Prop} {v1 v2 : Int} (hA : AB (g 135)) (h1 : i32 v1) (h2 : i32 v2) (hK : (0 ≤ v1 ∧ v1 < g 135 0) ∧ 0 ≤ v2 ∧ v2 ≤ 99 → K 1 (up g 135 (22 + 7 * v1.toNat) v2)) (hK0 : ¬ ((0 ≤ v1 ∧ v1 < g 135 0) ∧ 0 ≤ v2 ∧ v2 ≤ 99) → K 0 g) : cI (d + 3) m_X12_weight [(vR 134), (vI v1), (vI v2)] dd sh g K := by
  have en := hA.n
  refine mkI (ls := [some (vR 134), some (vI v1), some (vI v2)]) rfl rfl rfl rfl rfl (r_X12_weight_0 ?_)
  refine s_X12_isSuspect en h1 (fun h3 h4 => ?_) (fun _ => ?_)
  · obtain ⟨n, rfl⟩ := Int.eq_ofNat_of_zero_le h3
    repeat' (first
      | (refine imp_mk ?_; intro hh; first | contradiction | (exfalso; omega) | skip)
      | (refine s_X12_isIn (by omega) (by omega) (by omega) (fun _ _ => ?_) (fun _ => ?_))
      | (refine s_put6 (by omega) ?_)
      | (exact hK (by omega))
      | (exact hK0 (by omega))
      | refine And.intro ?_ ?_
      | omega)
  · repeat' (first
      | (refine imp_mk ?_; intro hh; first | contradiction | (exfalso; omega) | skip)
      | (exact hK0 (by omega))
      | refine And.intro ?_ ?_
      | omega)
theorem sim_weight : S_weight := by
  intro dd sh g hI a1 a2 h1 h2
  have en := hI.s.n
  have hA := hI.s.ab
  unfold SimI
  refine s_X11_weight hI.s h1 h2 (fun c => ?_) (fun c => ?_)
  · refine s_X12_weight hA h1 h2 (fun _ => ?_) (fun h => absurd c h)
    obtain ⟨n, rfl⟩ := Int.eq_ofNat_of_zero_le c.1.1
    refine ⟨rfl, ⟨by decide, by decide⟩, ?_⟩
    refine hI.step (g1 := up g 12 n a2) ?_ ⟨?_, ?_⟩ ?_ ?_ ?_ ?_
    · intro q hq; repeat rw [up_off (by omega)]
    · intro q hq; exact up_off (by omega)
    · intro k hk; rfl
    · exact hI.s.fr (by intro k hk; simp [up] <;> omega) (by intro p q hp hq; simp [up] <;> omega)
    · exact hI.nn.weight (n := n) (by omega) (by omega) c.2 (by intro k hk; simp [up, hk]) (by simp [up]) (by intro k hk; simp [up] <;> omega) (by simp [up])
    · exact RHc.fr hI.h (by intro q hq; repeat rw [up_off (by omega)]) (by intro k hk; simp [up] <;> omega) (by simp [up] <;> omega) (by simp [up] <;> omega)
    · simp [up] <;> omega
  · refine s_X12_weight hA h1 h2 (fun h => absurd h c) (fun _ => ?_)
    exact ⟨rfl, ⟨by decide, by decide⟩, hI⟩
theorem s_X11_risk {d : Nat} {dd : List (Nat × Nat)} {sh : Nat → Nat → Nat} {g : Nat → Nat → Int} {K : Int → (Nat → Nat → Int) → Prop} {v1 v2 : Int} (h1 : i32 v1) (h2 : i32 v2) (hK : (0 ≤ v1 ∧ v1 ≤ 8) ∧ 0 ≤ v2 ∧ v2 ≤ 10 → K 1 (up g 13 v1.toNat v2)) (hK0 : ¬ ((0 ≤ v1 ∧ v1 ≤ 8) ∧ 0 ≤ v2 ∧ v2 ≤ 10) → K 0 g) : cI (d + 1) m_X11_risk [(vR 1), (vI v1), (vI v2)] dd sh g K := by
  refine mkI (ls := [some (vR 1), some (vI v1), some (vI v2)]) rfl rfl rfl rfl rfl (r_X11_risk_0 ?_)
  repeat' (first
    | (refine imp_mk ?_; intro hh; first | contradiction | (exfalso; omega) | skip)
    | (exact hK (by omega))
    | (exact hK0 (by omega))
    | refine And.intro ?_ ?_
    | omega)
theorem s_X12_risk {d : Nat} {dd : List (Nat × Nat)} {sh : Nat → Nat → Nat} {g : Nat → Nat → Int} {K : Int → (Nat → Nat → Int) → Prop} {v1 v2 : Int} (h1 : i32 v1) (h2 : i32 v2) (hK : (0 ≤ v1 ∧ v1 ≤ 8) ∧ 0 ≤ v2 ∧ v2 ≤ 10 → K 1 (up g 135 (174 + v1).toNat v2)) (hK0 : ¬ ((0 ≤ v1 ∧ v1 ≤ 8) ∧ 0 ≤ v2 ∧ v2 ≤ 10) → K 0 g) : cI (d + 2) m_X12_risk [(vR 134), (vI v1), (vI v2)] dd sh g K := by
  refine mkI (ls := [some (vR 134), some (vI v1), some (vI v2)]) rfl rfl rfl rfl rfl (r_X12_risk_0 ?_)
  repeat' (first
    | (refine imp_mk ?_; intro hh; first | contradiction | (exfalso; omega) | skip)
    | (refine s_X12_isIn (by omega) (by omega) (by omega) (fun _ _ => ?_) (fun _ => ?_))
    | (exact hK (by omega))
    | (exact hK0 (by omega))
    | refine And.intro ?_ ?_
    | omega)
theorem sim_risk : S_risk := by
  intro dd sh g hI a1 a2 h1 h2
  unfold SimI
  refine s_X11_risk h1 h2 (fun c => ?_) (fun c => ?_)
  · refine s_X12_risk h1 h2 (fun _ => ?_) (fun h => absurd c h)
    obtain ⟨n, rfl⟩ := Int.eq_ofNat_of_zero_le c.1.1
    rw [show (174 + (n : Int)).toNat = 174 + n by omega, show ((n : Int)).toNat = n from rfl]
    refine ⟨rfl, ⟨by decide, by decide⟩, ?_⟩
    refine hI.step (g1 := up g 13 n a2) ?_ ⟨?_, ?_⟩ ?_ ?_ ?_ ?_
    · intro q hq; repeat rw [up_off (by omega)]
    · intro q hq; exact up_off (by omega)
    · intro k hk; rfl
    · exact hI.s.fr (by intro k hk; simp [up] <;> omega) (by intro p q hp hq; simp [up] <;> omega)
    · exact hI.nn.risk (n := n) (by omega) c.2 (by intro k hk; simp [up, hk]) (by simp [up]) (by intro k hk; simp [up] <;> omega) (by simp [up])
    · exact RHc.fr hI.h (by intro q hq; repeat rw [up_off (by omega)]) (by intro k hk; simp [up] <;> omega) (by simp [up] <;> omega) (by simp [up] <;> omega)
    · simp [up] <;> omega
  · refine s_X12_risk h1 h2 (fun h => absurd h c) (fun _ => ?_)
    exact ⟨rfl, ⟨by decide, by decide⟩, hI⟩
theorem s_X11_end {d : Nat} {dd : List (Nat × Nat)} {sh : Nat → Nat → Nat} {g : Nat → Nat → Int} {K : Int → (Nat → Nat → Int) → Prop} {v1 : Int} (ht : 0 ≤ g 102 1 ∧ g 102 1 ≤ 300) (h1 : i32 v1) (hK : 0 ≤ v1 ∧ v1 ≤ g 102 1 → K v1 (up g 102 1 v1)) (hK0 : ¬ (0 ≤ v1 ∧ v1 ≤ g 102 1) → K (-1) g) : cI (d + 1) m_X11_end [(vR 1), (vI v1)] dd sh g K := by
  refine mkI (ls := [some (vR 1), some (vI v1)]) rfl rfl rfl rfl rfl (r_X11_end_0 ?_)
  repeat' (first
    | (refine imp_mk ?_; intro hh; first | contradiction | (exfalso; omega) | skip)
    | (exact hK (by omega))
    | (exact hK0 (by omega))
    | refine And.intro ?_ ?_
    | omega)
theorem s_X12_end {d : Nat} {dd : List (Nat × Nat)} {sh : Nat → Nat → Nat} {g : Nat → Nat → Int} {K : Int → (Nat → Nat → Int) → Prop} {v1 : Int} (ht : 0 ≤ g 134 4 ∧ g 134 4 ≤ 300) (h1 : i32 v1) (hK : 0 ≤ v1 ∧ v1 ≤ g 134 4 → K v1 (up g 134 4 v1)) (hK0 : ¬ (0 ≤ v1 ∧ v1 ≤ g 134 4) → K (-1) g) : cI (d + 2) m_X12_end [(vR 134), (vI v1)] dd sh g K := by
  refine mkI (ls := [some (vR 134), some (vI v1)]) rfl rfl rfl rfl rfl (r_X12_end_0 ?_)
  repeat' (first
    | (refine imp_mk ?_; intro hh; first | contradiction | (exfalso; omega) | skip)
    | (refine s_X12_isIn (by omega) (by omega) (by omega) (fun _ _ => ?_) (fun _ => ?_))
    | (exact hK (by omega))
    | (exact hK0 (by omega))
    | refine And.intro ?_ ?_
    | omega)
theorem sim_end : S_end := by
  intro dd sh g hI a1 h1
  obtain ⟨x1, x2, x3, x4, x5⟩ := hI.x
  unfold SimI
  refine s_X11_end (by omega) h1 (fun c => ?_) (fun c => ?_)
  · refine s_X12_end x1.2 h1 (fun _ => ?_) (fun h => absurd (show 0 ≤ a1 ∧ a1 ≤ g 134 4 by omega) h)
    refine ⟨rfl, h1, hI.tape (fun q hq => by repeat rw [up_off (by omega)]) ⟨⟨?_, ?_, ?_⟩, x2, x3, x4, x5⟩⟩
    · simp [up]
    · simp [up] <;> omega
    · simp [up] <;> omega
  · refine s_X12_end x1.2 h1 (fun h => absurd (show 0 ≤ a1 ∧ a1 ≤ g 102 1 by rw [x1.1]; exact h) c) (fun _ => ?_)
    exact ⟨rfl, ⟨by decide, by decide⟩, hI⟩
theorem s_X1_hasText {d : Nat} {dd : List (Nat × Nat)} {sh : Nat → Nat → Nat} {g : Nat → Nat → Int} {K : Int → (Nat → Nat → Int) → Prop} {v1 : Int} {a : Nat → Int} (hH : RHc g a) (h1 : i32 v1) (hK : 0 ≤ v1 ∧ v1 < a 2 → K 1 g) (hK0 : ¬ (0 ≤ v1 ∧ v1 < a 2) → K 0 g) : cI (d + 1) m_X1_hasText [(vR 2), (vI v1)] dd sh g K := by
  have e := hH.tx
  refine mkI (ls := [some (vR 2), some (vI v1)]) rfl rfl rfl rfl rfl (r_X1_hasText_0 ?_)
  repeat' (first
    | (refine imp_mk ?_; intro hh; first | contradiction | (exfalso; omega) | skip)
    | (exact hK (by omega))
    | (exact hK0 (by omega))
    | refine And.intro ?_ ?_
    | omega)
theorem s_X1_textOf {d : Nat} {dd : List (Nat × Nat)} {sh : Nat → Nat → Nat} {g : Nat → Nat → Int} {K : Nat → (Nat → Nat → Int) → Prop} {v1 : Int} {a : Nat → Int} (hH : RHc g a) (h1 : i32 v1) (hK : 0 ≤ v1 ∧ v1 < a 2 → K (sh 51 v1.toNat) g) (hK0 : ¬ (0 ≤ v1 ∧ v1 < a 2) → K 0 g) : cR (d + 2) m_X1_textOf [(vR 2), (vI v1)] dd sh g K := by
  have e := hH.tx
  refine mkR (ls := [some (vR 2), some (vI v1)]) rfl rfl rfl rfl rfl (r_X1_textOf_0 ?_)
  refine s_X1_hasText hH h1 (fun _ => ?_) (fun _ => ?_)
  · repeat' (first
      | (refine imp_mk ?_; intro hh; first | contradiction | (exfalso; omega) | skip)
      | (exact hK (by omega))
      | refine And.intro ?_ ?_
      | omega)
  · repeat' (first
      | (refine imp_mk ?_; intro hh; first | contradiction | (exfalso; omega) | skip)
      | (exact hK0 (by omega))
      | refine And.intro ?_ ?_
      | omega)
theorem s_X11_by {d : Nat} {dd : List (Nat × Nat)} {sh : Nat → Nat → Nat} {g : Nat → Nat → Int} {K : Int → (Nat → Nat → Int) → Prop} {v1 : Int} {a : Nat → Int} (hH : RHc g a) (h1 : i32 v1) (hK : -1 ≤ v1 ∧ v1 < a 2 → K 1 (up g 2 7 v1)) (hK0 : ¬ (-1 ≤ v1 ∧ v1 < a 2) → K 0 g) : cI (d + 2) m_X11_by [(vR 1), (vI v1)] dd sh g K := by
  have e := hH.tx
  refine mkI (ls := [some (vR 1), some (vI v1)]) rfl rfl rfl rfl rfl (r_X11_by_0 ?_)
  repeat' (first
    | (refine imp_mk ?_; intro hh; first | contradiction | (exfalso; omega) | skip)
    | (refine s_X1_hasText hH h1 (fun _ => ?_) (fun _ => ?_))
    | (exact hK (by omega))
    | (exact hK0 (by omega))
    | refine And.intro ?_ ?_
    | omega)
theorem s_X12_by {d : Nat} {dd : List (Nat × Nat)} {sh : Nat → Nat → Nat} {g : Nat → Nat → Int} {K : Int → (Nat → Nat → Int) → Prop} {v1 : Int} (ht : 0 ≤ g 135 2 ∧ g 135 2 ≤ 4) (h1 : i32 v1) (hK : -1 ≤ v1 ∧ v1 < g 135 2 → K 1 (up g 135 3 v1)) (hK0 : ¬ (-1 ≤ v1 ∧ v1 < g 135 2) → K 0 g) : cI (d + 2) m_X12_by [(vR 134), (vI v1)] dd sh g K := by
  refine mkI (ls := [some (vR 134), some (vI v1)]) rfl rfl rfl rfl rfl (r_X12_by_0 ?_)
  repeat' (first
    | (refine imp_mk ?_; intro hh; first | contradiction | (exfalso; omega) | skip)
    | (refine s_X12_isIn (by omega) (by omega) (by omega) (fun _ _ => ?_) (fun _ => ?_))
    | (exact hK (by omega))
    | (exact hK0 (by omega))
    | refine And.intro ?_ ?_
    | omega)
theorem sim_by : S_by := by
  intro dd sh g hI a1 h1
  have et := hI.h.tx
  unfold SimI
  refine s_X11_by hI.h h1 (fun c => ?_) (fun c => ?_)
  · refine s_X12_by et.2 h1 (fun _ => ?_) (fun h => absurd c h)
    refine ⟨rfl, ⟨by decide, by decide⟩, ?_⟩
    refine hI.step (g1 := up g 2 7 a1) ?_ ⟨?_, ?_⟩ ?_ ?_ ?_ ?_
    · intro q hq; repeat rw [up_off (by omega)]
    · intro q hq; exact up_off (by omega)
    · intro k hk; rfl
    · exact hI.s.fr (by intro k hk; simp [up] <;> omega) (by intro p q hp hq; simp [up] <;> omega)
    · exact hI.nn.fr (by intro k hk; simp [up] <;> omega) (by intro p hp; simp [up] <;> omega)
    · exact RH.by_ (h := g 2) (a := g 135) (v := a1) (RHrow hI.h fun k hk => up_off (by omega)) (by intro k hk; simp [up, hk]) (by simp [up]) c (by intro k hk; simp [up, hk]) (by simp [up])
    · simp [up]
  · refine s_X12_by et.2 h1 (fun h => absurd h c) (fun _ => ?_)
    exact ⟨rfl, ⟨by decide, by decide⟩, hI⟩
theorem s_write0 {d : Nat} {dd : List (Nat × Nat)} {sh : Nat → Nat → Nat} {g : Nat → Nat → Int} {K : Int → (Nat → Nat → Int) → Prop} {v2 v3 v4 : Int} (hs : 0 ≤ g 14 0 ∧ g 14 0 ≤ 8) (hK : g 14 0 < 8 → K (g 14 0 + 1) (up (up g 16 (g 14 0).toNat ((v2 * 16 + v3) * 16 + v4)) 14 0 (g 14 0 + 1))) (hK0 : g 14 0 = 8 → K (-2) g) : cI (d + 1) m_X3_write [vR 11, vI 0, vI v2, vI v3, vI v4] dd sh g K := by
  refine mkI (ls := [some (vR 11), some (vI 0), some (vI v2), some (vI v3), some (vI v4), none]) rfl rfl rfl rfl rfl (r_X3_write_0 ?_)
  rw [show rho sh 15 ((0 : Int)).toNat = 16 from rfl, show ((0 : Int)).toNat = 0 from rfl, lenT (T_16 dd)]
  repeat' (first
    | (refine imp_mk ?_; intro hh; first | contradiction | (exfalso; omega) | skip)
    | (exact arT (by decide) (T_16 dd))
    | (exact hK (by omega))
    | (exact hK0 (by omega))
    | refine And.intro ?_ ?_
    | omega)
theorem s_forget0 {d : Nat} {dd : List (Nat × Nat)} {sh : Nat → Nat → Nat} {g : Nat → Nat → Int} {K : Int → (Nat → Nat → Int) → Prop} (hK : K 0 (up g 14 0 0)) : cI (d + 1) m_X3_forget [vR 11, vI 0] dd sh g K := by
  refine mkI (ls := [some (vR 11), some (vI 0)]) rfl rfl rfl rfl rfl (r_X3_forget_0 ?_)
  exact ⟨by omega, by omega, hK⟩
theorem s_one0 {d : Nat} {dd : List (Nat × Nat)} {sh : Nat → Nat → Nat} {g : Nat → Nat → Int} {K : Int → (Nat → Nat → Int) → Prop} {k : Nat} {x y z : Int} (hk : k < 8) (hv : g 16 k = (x * 16 + y) * 16 + z) (hx : 0 ≤ x ∧ x < 100) (hy : 0 ≤ y ∧ y < 16) (hz : 0 ≤ z ∧ z < 16) (hK : K x g) : cI (d + 1) m_X3_oneOf [vR 11, vI 0, vI (k : Int)] dd sh g K := by
  refine mkI (ls := [some (vR 11), some (vI 0), some (vI ((k : Int)))]) rfl rfl rfl rfl rfl (r_X3_oneOf_0 ?_)
  rw [show rho sh 15 ((0 : Int)).toNat = 16 from rfl, lenT (T_16 dd), show ((k : Int)).toNat = k from rfl, hv]
  have e : ((x * 16 + y) * 16 + z).tdiv 256 = x := by rw [Int.tdiv_eq_ediv_of_nonneg (by omega)]; omega
  rw [e]
  repeat' (first
    | (refine imp_mk ?_; intro hh; first | contradiction | (exfalso; omega) | skip)
    | (exact arT (by decide) (T_16 dd))
    | (exact hK)
    | refine And.intro ?_ ?_
    | omega)
theorem s_other0 {d : Nat} {dd : List (Nat × Nat)} {sh : Nat → Nat → Nat} {g : Nat → Nat → Int} {K : Int → (Nat → Nat → Int) → Prop} {k : Nat} {x y z : Int} (hk : k < 8) (hv : g 16 k = (x * 16 + y) * 16 + z) (hx : 0 ≤ x ∧ x < 100) (hy : 0 ≤ y ∧ y < 16) (hz : 0 ≤ z ∧ z < 16) (hK : K y g) : cI (d + 1) m_X3_otherOf [vR 11, vI 0, vI (k : Int)] dd sh g K := by
  refine mkI (ls := [some (vR 11), some (vI 0), some (vI ((k : Int)))]) rfl rfl rfl rfl rfl (r_X3_otherOf_0 ?_)
  rw [show rho sh 15 ((0 : Int)).toNat = 16 from rfl, lenT (T_16 dd), show ((k : Int)).toNat = k from rfl, hv]
  have e : ((x * 16 + y) * 16 + z).tdiv 16 = x * 16 + y := by rw [Int.tdiv_eq_ediv_of_nonneg (by omega)]; omega
  have e2 : (x * 16 + y).tmod 16 = y := by rw [Int.tmod_eq_emod_of_nonneg (by omega)]; omega
  rw [e, e2]
  repeat' (first
    | (refine imp_mk ?_; intro hh; first | contradiction | (exfalso; omega) | skip)
    | (exact arT (by decide) (T_16 dd))
    | (exact hK)
    | refine And.intro ?_ ?_
    | omega)
theorem s_what0 {d : Nat} {dd : List (Nat × Nat)} {sh : Nat → Nat → Nat} {g : Nat → Nat → Int} {K : Int → (Nat → Nat → Int) → Prop} {k : Nat} {x y z : Int} (hk : k < 8) (hv : g 16 k = (x * 16 + y) * 16 + z) (hx : 0 ≤ x ∧ x < 100) (hy : 0 ≤ y ∧ y < 16) (hz : 0 ≤ z ∧ z < 16) (hK : K z g) : cI (d + 1) m_X3_whatOf [vR 11, vI 0, vI (k : Int)] dd sh g K := by
  refine mkI (ls := [some (vR 11), some (vI 0), some (vI ((k : Int)))]) rfl rfl rfl rfl rfl (r_X3_whatOf_0 ?_)
  rw [show rho sh 15 ((0 : Int)).toNat = 16 from rfl, lenT (T_16 dd), show ((k : Int)).toNat = k from rfl, hv]
  have e : ((x * 16 + y) * 16 + z).tmod 16 = z := by rw [Int.tmod_eq_emod_of_nonneg (by omega)]; omega
  rw [e]
  repeat' (first
    | (refine imp_mk ?_; intro hh; first | contradiction | (exfalso; omega) | skip)
    | (exact arT (by decide) (T_16 dd))
    | (exact hK)
    | refine And.intro ?_ ?_
    | omega)
theorem s_write1 {d : Nat} {dd : List (Nat × Nat)} {sh : Nat → Nat → Nat} {g : Nat → Nat → Int} {K : Int → (Nat → Nat → Int) → Prop} {v2 v3 v4 : Int} (hs : 0 ≤ g 14 1 ∧ g 14 1 ≤ 8) (hK : g 14 1 < 8 → K (g 14 1 + 1) (up (up g 17 (g 14 1).toNat ((v2 * 16 + v3) * 16 + v4)) 14 1 (g 14 1 + 1))) (hK0 : g 14 1 = 8 → K (-2) g) : cI (d + 1) m_X3_write [vR 11, vI 1, vI v2, vI v3, vI v4] dd sh g K := by
  refine mkI (ls := [some (vR 11), some (vI 1), some (vI v2), some (vI v3), some (vI v4), none]) rfl rfl rfl rfl rfl (r_X3_write_0 ?_)
  rw [show rho sh 15 ((1 : Int)).toNat = 17 from rfl, show ((1 : Int)).toNat = 1 from rfl, lenT (T_17 dd)]
  repeat' (first
    | (refine imp_mk ?_; intro hh; first | contradiction | (exfalso; omega) | skip)
    | (exact arT (by decide) (T_17 dd))
    | (exact hK (by omega))
    | (exact hK0 (by omega))
    | refine And.intro ?_ ?_
    | omega)
theorem s_forget1 {d : Nat} {dd : List (Nat × Nat)} {sh : Nat → Nat → Nat} {g : Nat → Nat → Int} {K : Int → (Nat → Nat → Int) → Prop} (hK : K 0 (up g 14 1 0)) : cI (d + 1) m_X3_forget [vR 11, vI 1] dd sh g K := by
  refine mkI (ls := [some (vR 11), some (vI 1)]) rfl rfl rfl rfl rfl (r_X3_forget_0 ?_)
  exact ⟨by omega, by omega, hK⟩
theorem s_one1 {d : Nat} {dd : List (Nat × Nat)} {sh : Nat → Nat → Nat} {g : Nat → Nat → Int} {K : Int → (Nat → Nat → Int) → Prop} {k : Nat} {x y z : Int} (hk : k < 8) (hv : g 17 k = (x * 16 + y) * 16 + z) (hx : 0 ≤ x ∧ x < 100) (hy : 0 ≤ y ∧ y < 16) (hz : 0 ≤ z ∧ z < 16) (hK : K x g) : cI (d + 1) m_X3_oneOf [vR 11, vI 1, vI (k : Int)] dd sh g K := by
  refine mkI (ls := [some (vR 11), some (vI 1), some (vI ((k : Int)))]) rfl rfl rfl rfl rfl (r_X3_oneOf_0 ?_)
  rw [show rho sh 15 ((1 : Int)).toNat = 17 from rfl, lenT (T_17 dd), show ((k : Int)).toNat = k from rfl, hv]
  have e : ((x * 16 + y) * 16 + z).tdiv 256 = x := by rw [Int.tdiv_eq_ediv_of_nonneg (by omega)]; omega
  rw [e]
  repeat' (first
    | (refine imp_mk ?_; intro hh; first | contradiction | (exfalso; omega) | skip)
    | (exact arT (by decide) (T_17 dd))
    | (exact hK)
    | refine And.intro ?_ ?_
    | omega)
theorem s_other1 {d : Nat} {dd : List (Nat × Nat)} {sh : Nat → Nat → Nat} {g : Nat → Nat → Int} {K : Int → (Nat → Nat → Int) → Prop} {k : Nat} {x y z : Int} (hk : k < 8) (hv : g 17 k = (x * 16 + y) * 16 + z) (hx : 0 ≤ x ∧ x < 100) (hy : 0 ≤ y ∧ y < 16) (hz : 0 ≤ z ∧ z < 16) (hK : K y g) : cI (d + 1) m_X3_otherOf [vR 11, vI 1, vI (k : Int)] dd sh g K := by
  refine mkI (ls := [some (vR 11), some (vI 1), some (vI ((k : Int)))]) rfl rfl rfl rfl rfl (r_X3_otherOf_0 ?_)
  rw [show rho sh 15 ((1 : Int)).toNat = 17 from rfl, lenT (T_17 dd), show ((k : Int)).toNat = k from rfl, hv]
  have e : ((x * 16 + y) * 16 + z).tdiv 16 = x * 16 + y := by rw [Int.tdiv_eq_ediv_of_nonneg (by omega)]; omega
  have e2 : (x * 16 + y).tmod 16 = y := by rw [Int.tmod_eq_emod_of_nonneg (by omega)]; omega
  rw [e, e2]
  repeat' (first
    | (refine imp_mk ?_; intro hh; first | contradiction | (exfalso; omega) | skip)
    | (exact arT (by decide) (T_17 dd))
    | (exact hK)
    | refine And.intro ?_ ?_
    | omega)
theorem s_what1 {d : Nat} {dd : List (Nat × Nat)} {sh : Nat → Nat → Nat} {g : Nat → Nat → Int} {K : Int → (Nat → Nat → Int) → Prop} {k : Nat} {x y z : Int} (hk : k < 8) (hv : g 17 k = (x * 16 + y) * 16 + z) (hx : 0 ≤ x ∧ x < 100) (hy : 0 ≤ y ∧ y < 16) (hz : 0 ≤ z ∧ z < 16) (hK : K z g) : cI (d + 1) m_X3_whatOf [vR 11, vI 1, vI (k : Int)] dd sh g K := by
  refine mkI (ls := [some (vR 11), some (vI 1), some (vI ((k : Int)))]) rfl rfl rfl rfl rfl (r_X3_whatOf_0 ?_)
  rw [show rho sh 15 ((1 : Int)).toNat = 17 from rfl, lenT (T_17 dd), show ((k : Int)).toNat = k from rfl, hv]
  have e : ((x * 16 + y) * 16 + z).tmod 16 = z := by rw [Int.tmod_eq_emod_of_nonneg (by omega)]; omega
  rw [e]
  repeat' (first
    | (refine imp_mk ?_; intro hh; first | contradiction | (exfalso; omega) | skip)
    | (exact arT (by decide) (T_17 dd))
    | (exact hK)
    | refine And.intro ?_ ?_
    | omega)
theorem s_write2 {d : Nat} {dd : List (Nat × Nat)} {sh : Nat → Nat → Nat} {g : Nat → Nat → Int} {K : Int → (Nat → Nat → Int) → Prop} {v2 v3 v4 : Int} (hs : 0 ≤ g 14 2 ∧ g 14 2 ≤ 8) (hK : g 14 2 < 8 → K (g 14 2 + 1) (up (up g 18 (g 14 2).toNat ((v2 * 16 + v3) * 16 + v4)) 14 2 (g 14 2 + 1))) (hK0 : g 14 2 = 8 → K (-2) g) : cI (d + 1) m_X3_write [vR 11, vI 2, vI v2, vI v3, vI v4] dd sh g K := by
  refine mkI (ls := [some (vR 11), some (vI 2), some (vI v2), some (vI v3), some (vI v4), none]) rfl rfl rfl rfl rfl (r_X3_write_0 ?_)
  rw [show rho sh 15 ((2 : Int)).toNat = 18 from rfl, show ((2 : Int)).toNat = 2 from rfl, lenT (T_18 dd)]
  repeat' (first
    | (refine imp_mk ?_; intro hh; first | contradiction | (exfalso; omega) | skip)
    | (exact arT (by decide) (T_18 dd))
    | (exact hK (by omega))
    | (exact hK0 (by omega))
    | refine And.intro ?_ ?_
    | omega)
theorem s_forget2 {d : Nat} {dd : List (Nat × Nat)} {sh : Nat → Nat → Nat} {g : Nat → Nat → Int} {K : Int → (Nat → Nat → Int) → Prop} (hK : K 0 (up g 14 2 0)) : cI (d + 1) m_X3_forget [vR 11, vI 2] dd sh g K := by
  refine mkI (ls := [some (vR 11), some (vI 2)]) rfl rfl rfl rfl rfl (r_X3_forget_0 ?_)
  exact ⟨by omega, by omega, hK⟩
theorem s_one2 {d : Nat} {dd : List (Nat × Nat)} {sh : Nat → Nat → Nat} {g : Nat → Nat → Int} {K : Int → (Nat → Nat → Int) → Prop} {k : Nat} {x y z : Int} (hk : k < 8) (hv : g 18 k = (x * 16 + y) * 16 + z) (hx : 0 ≤ x ∧ x < 100) (hy : 0 ≤ y ∧ y < 16) (hz : 0 ≤ z ∧ z < 16) (hK : K x g) : cI (d + 1) m_X3_oneOf [vR 11, vI 2, vI (k : Int)] dd sh g K := by
  refine mkI (ls := [some (vR 11), some (vI 2), some (vI ((k : Int)))]) rfl rfl rfl rfl rfl (r_X3_oneOf_0 ?_)
  rw [show rho sh 15 ((2 : Int)).toNat = 18 from rfl, lenT (T_18 dd), show ((k : Int)).toNat = k from rfl, hv]
  have e : ((x * 16 + y) * 16 + z).tdiv 256 = x := by rw [Int.tdiv_eq_ediv_of_nonneg (by omega)]; omega
  rw [e]
  repeat' (first
    | (refine imp_mk ?_; intro hh; first | contradiction | (exfalso; omega) | skip)
    | (exact arT (by decide) (T_18 dd))
    | (exact hK)
    | refine And.intro ?_ ?_
    | omega)
theorem s_other2 {d : Nat} {dd : List (Nat × Nat)} {sh : Nat → Nat → Nat} {g : Nat → Nat → Int} {K : Int → (Nat → Nat → Int) → Prop} {k : Nat} {x y z : Int} (hk : k < 8) (hv : g 18 k = (x * 16 + y) * 16 + z) (hx : 0 ≤ x ∧ x < 100) (hy : 0 ≤ y ∧ y < 16) (hz : 0 ≤ z ∧ z < 16) (hK : K y g) : cI (d + 1) m_X3_otherOf [vR 11, vI 2, vI (k : Int)] dd sh g K := by
  refine mkI (ls := [some (vR 11), some (vI 2), some (vI ((k : Int)))]) rfl rfl rfl rfl rfl (r_X3_otherOf_0 ?_)
  rw [show rho sh 15 ((2 : Int)).toNat = 18 from rfl, lenT (T_18 dd), show ((k : Int)).toNat = k from rfl, hv]
  have e : ((x * 16 + y) * 16 + z).tdiv 16 = x * 16 + y := by rw [Int.tdiv_eq_ediv_of_nonneg (by omega)]; omega
  have e2 : (x * 16 + y).tmod 16 = y := by rw [Int.tmod_eq_emod_of_nonneg (by omega)]; omega
  rw [e, e2]
  repeat' (first
    | (refine imp_mk ?_; intro hh; first | contradiction | (exfalso; omega) | skip)
    | (exact arT (by decide) (T_18 dd))
    | (exact hK)
    | refine And.intro ?_ ?_
    | omega)
theorem s_what2 {d : Nat} {dd : List (Nat × Nat)} {sh : Nat → Nat → Nat} {g : Nat → Nat → Int} {K : Int → (Nat → Nat → Int) → Prop} {k : Nat} {x y z : Int} (hk : k < 8) (hv : g 18 k = (x * 16 + y) * 16 + z) (hx : 0 ≤ x ∧ x < 100) (hy : 0 ≤ y ∧ y < 16) (hz : 0 ≤ z ∧ z < 16) (hK : K z g) : cI (d + 1) m_X3_whatOf [vR 11, vI 2, vI (k : Int)] dd sh g K := by
  refine mkI (ls := [some (vR 11), some (vI 2), some (vI ((k : Int)))]) rfl rfl rfl rfl rfl (r_X3_whatOf_0 ?_)
  rw [show rho sh 15 ((2 : Int)).toNat = 18 from rfl, lenT (T_18 dd), show ((k : Int)).toNat = k from rfl, hv]
  have e : ((x * 16 + y) * 16 + z).tmod 16 = z := by rw [Int.tmod_eq_emod_of_nonneg (by omega)]; omega
  rw [e]
  repeat' (first
    | (refine imp_mk ?_; intro hh; first | contradiction | (exfalso; omega) | skip)
    | (exact arT (by decide) (T_18 dd))
    | (exact hK)
    | refine And.intro ?_ ?_
    | omega)
theorem s_write3 {d : Nat} {dd : List (Nat × Nat)} {sh : Nat → Nat → Nat} {g : Nat → Nat → Int} {K : Int → (Nat → Nat → Int) → Prop} {v2 v3 v4 : Int} (hs : 0 ≤ g 14 3 ∧ g 14 3 ≤ 8) (hK : g 14 3 < 8 → K (g 14 3 + 1) (up (up g 19 (g 14 3).toNat ((v2 * 16 + v3) * 16 + v4)) 14 3 (g 14 3 + 1))) (hK0 : g 14 3 = 8 → K (-2) g) : cI (d + 1) m_X3_write [vR 11, vI 3, vI v2, vI v3, vI v4] dd sh g K := by
  refine mkI (ls := [some (vR 11), some (vI 3), some (vI v2), some (vI v3), some (vI v4), none]) rfl rfl rfl rfl rfl (r_X3_write_0 ?_)
  rw [show rho sh 15 ((3 : Int)).toNat = 19 from rfl, show ((3 : Int)).toNat = 3 from rfl, lenT (T_19 dd)]
  repeat' (first
    | (refine imp_mk ?_; intro hh; first | contradiction | (exfalso; omega) | skip)
    | (exact arT (by decide) (T_19 dd))
    | (exact hK (by omega))
    | (exact hK0 (by omega))
    | refine And.intro ?_ ?_
    | omega)
theorem s_forget3 {d : Nat} {dd : List (Nat × Nat)} {sh : Nat → Nat → Nat} {g : Nat → Nat → Int} {K : Int → (Nat → Nat → Int) → Prop} (hK : K 0 (up g 14 3 0)) : cI (d + 1) m_X3_forget [vR 11, vI 3] dd sh g K := by
  refine mkI (ls := [some (vR 11), some (vI 3)]) rfl rfl rfl rfl rfl (r_X3_forget_0 ?_)
  exact ⟨by omega, by omega, hK⟩
theorem s_one3 {d : Nat} {dd : List (Nat × Nat)} {sh : Nat → Nat → Nat} {g : Nat → Nat → Int} {K : Int → (Nat → Nat → Int) → Prop} {k : Nat} {x y z : Int} (hk : k < 8) (hv : g 19 k = (x * 16 + y) * 16 + z) (hx : 0 ≤ x ∧ x < 100) (hy : 0 ≤ y ∧ y < 16) (hz : 0 ≤ z ∧ z < 16) (hK : K x g) : cI (d + 1) m_X3_oneOf [vR 11, vI 3, vI (k : Int)] dd sh g K := by
  refine mkI (ls := [some (vR 11), some (vI 3), some (vI ((k : Int)))]) rfl rfl rfl rfl rfl (r_X3_oneOf_0 ?_)
  rw [show rho sh 15 ((3 : Int)).toNat = 19 from rfl, lenT (T_19 dd), show ((k : Int)).toNat = k from rfl, hv]
  have e : ((x * 16 + y) * 16 + z).tdiv 256 = x := by rw [Int.tdiv_eq_ediv_of_nonneg (by omega)]; omega
  rw [e]
  repeat' (first
    | (refine imp_mk ?_; intro hh; first | contradiction | (exfalso; omega) | skip)
    | (exact arT (by decide) (T_19 dd))
    | (exact hK)
    | refine And.intro ?_ ?_
    | omega)
theorem s_other3 {d : Nat} {dd : List (Nat × Nat)} {sh : Nat → Nat → Nat} {g : Nat → Nat → Int} {K : Int → (Nat → Nat → Int) → Prop} {k : Nat} {x y z : Int} (hk : k < 8) (hv : g 19 k = (x * 16 + y) * 16 + z) (hx : 0 ≤ x ∧ x < 100) (hy : 0 ≤ y ∧ y < 16) (hz : 0 ≤ z ∧ z < 16) (hK : K y g) : cI (d + 1) m_X3_otherOf [vR 11, vI 3, vI (k : Int)] dd sh g K := by
  refine mkI (ls := [some (vR 11), some (vI 3), some (vI ((k : Int)))]) rfl rfl rfl rfl rfl (r_X3_otherOf_0 ?_)
  rw [show rho sh 15 ((3 : Int)).toNat = 19 from rfl, lenT (T_19 dd), show ((k : Int)).toNat = k from rfl, hv]
  have e : ((x * 16 + y) * 16 + z).tdiv 16 = x * 16 + y := by rw [Int.tdiv_eq_ediv_of_nonneg (by omega)]; omega
  have e2 : (x * 16 + y).tmod 16 = y := by rw [Int.tmod_eq_emod_of_nonneg (by omega)]; omega
  rw [e, e2]
  repeat' (first
    | (refine imp_mk ?_; intro hh; first | contradiction | (exfalso; omega) | skip)
    | (exact arT (by decide) (T_19 dd))
    | (exact hK)
    | refine And.intro ?_ ?_
    | omega)
theorem s_what3 {d : Nat} {dd : List (Nat × Nat)} {sh : Nat → Nat → Nat} {g : Nat → Nat → Int} {K : Int → (Nat → Nat → Int) → Prop} {k : Nat} {x y z : Int} (hk : k < 8) (hv : g 19 k = (x * 16 + y) * 16 + z) (hx : 0 ≤ x ∧ x < 100) (hy : 0 ≤ y ∧ y < 16) (hz : 0 ≤ z ∧ z < 16) (hK : K z g) : cI (d + 1) m_X3_whatOf [vR 11, vI 3, vI (k : Int)] dd sh g K := by
  refine mkI (ls := [some (vR 11), some (vI 3), some (vI ((k : Int)))]) rfl rfl rfl rfl rfl (r_X3_whatOf_0 ?_)
  rw [show rho sh 15 ((3 : Int)).toNat = 19 from rfl, lenT (T_19 dd), show ((k : Int)).toNat = k from rfl, hv]
  have e : ((x * 16 + y) * 16 + z).tmod 16 = z := by rw [Int.tmod_eq_emod_of_nonneg (by omega)]; omega
  rw [e]
  repeat' (first
    | (refine imp_mk ?_; intro hh; first | contradiction | (exfalso; omega) | skip)
    | (exact arT (by decide) (T_19 dd))
    | (exact hK)
    | refine And.intro ?_ ?_
    | omega)
theorem s_X11_observe {d : Nat} {dd : List (Nat × Nat)} {sh : Nat → Nat → Nat} {g : Nat → Nat → Int} {K : Int → (Nat → Nat → Int) → Prop} {v1 v2 v3 : Int} {a : Nat → Int} (hS : RSc g a) (hs : 0 ≤ g 14 0 ∧ g 14 0 ≤ 8) (h1 : i32 v1) (h2 : i32 v2) (h3 : v3 = 0 ∨ v3 = 1) (hF : v1 = -1 → K 0 (up g 14 0 0)) (hK : v1 ≠ -1 → (0 ≤ v1 ∧ v1 < a 0) ∧ (0 ≤ v2 ∧ v2 < a 1) → g 14 0 < 8 → K (g 14 0 + 1) (up (up g 16 (g 14 0).toNat ((v1 * 16 + v2) * 16 + v3)) 14 0 (g 14 0 + 1))) (hK0 : v1 ≠ -1 → ¬ (((0 ≤ v1 ∧ v1 < a 0) ∧ (0 ≤ v2 ∧ v2 < a 1)) ∧ g 14 0 < 8) → K (-2) g) : cI (d + 3) m_X11_observe [(vR 1), (vI v1), (vI v2), (vI v3)] dd sh g K := by
  have en := hS.n
  have em := hS.m
  refine mkI (ls := [some (vR 1), some (vI v1), some (vI v2), some (vI v3)]) rfl rfl rfl rfl rfl (r_X11_observe_0 ?_)
  rcases h3 with rfl | rfl
  · repeat' (first
      | (refine imp_mk ?_; intro hh; first | contradiction | (exfalso; omega) | skip)
      | (refine s_X7_hasBoth hS h1 h2 (fun _ _ _ _ => ?_) (fun _ => ?_))
      | (refine s_write0 hs (fun _ => ?_) (fun _ => ?_))
      | (refine s_forget0 ?_)
      | (exact hF (by omega))
      | (exact hK (by omega) (by omega) (by omega))
      | (exact hK0 (by omega) (by omega))
      | refine And.intro ?_ ?_
      | omega)
  · repeat' (first
      | (refine imp_mk ?_; intro hh; first | contradiction | (exfalso; omega) | skip)
      | (refine s_X7_hasBoth hS h1 h2 (fun _ _ _ _ => ?_) (fun _ => ?_))
      | (refine s_write0 hs (fun _ => ?_) (fun _ => ?_))
      | (refine s_forget0 ?_)
      | (exact hF (by omega))
      | (exact hK (by omega) (by omega) (by omega))
      | (exact hK0 (by omega) (by omega))
      | refine And.intro ?_ ?_
      | omega)
theorem s_X12_observe {d : Nat} {dd : List (Nat × Nat)} {sh : Nat → Nat → Nat} {g : Nat → Nat → Int} {K : Int → (Nat → Nat → Int) → Prop} {v1 v2 v3 : Int} {n : Nat} (hA : AB (g 135)) (hs : g 135 5 = n) (hn : n ≤ 8) (h1 : i32 v1) (h2 : i32 v2) (h3 : v3 = 0 ∨ v3 = 1) (hF : v1 = -1 → K 0 (up g 135 5 0)) (hK : v1 ≠ -1 → (0 ≤ v1 ∧ v1 < g 135 0) ∧ (0 ≤ v2 ∧ v2 < g 135 1) → n < 8 → ∀ g', (∀ q, q ≠ 135 → g' q = g q) → (∀ k, k ≠ 5 → (k < 86 + 3 * n ∨ 88 + 3 * n < k) → g' 135 k = g 135 k) → g' 135 5 = (n : Int) + 1 → g' 135 (86 + 3 * n) = v1 → g' 135 (87 + 3 * n) = v2 → g' 135 (88 + 3 * n) = v3 →  K ((n : Int) + 1) g') (hK0 : v1 ≠ -1 → ¬ (((0 ≤ v1 ∧ v1 < g 135 0) ∧ (0 ≤ v2 ∧ v2 < g 135 1)) ∧ n < 8) → K (-2) g) : cI (d + 3) m_X12_observe [(vR 134), (vI v1), (vI v2), (vI v3)] dd sh g K := by
  have en := hA.n
  have em := hA.m
  refine mkI (ls := [some (vR 134), some (vI v1), some (vI v2), some (vI v3), none]) rfl rfl rfl rfl rfl (r_X12_observe_0 ?_)
  have hk : ∀ r, r = (n : Int) + 1 → v1 ≠ -1 → (0 ≤ v1 ∧ v1 < g 135 0) ∧ (0 ≤ v2 ∧ v2 < g 135 1) → n < 8 → ∀ g', (∀ q, q ≠ 135 → g' q = g q) → (∀ k, k ≠ 5 → (k < 86 + 3 * n ∨ 88 + 3 * n < k) → g' 135 k = g 135 k) → g' 135 5 = (n : Int) + 1 → g' 135 (86 + 3 * n) = v1 → g' 135 (87 + 3 * n) = v2 → g' 135 (88 + 3 * n) = v3 →  K r g' := fun r hr => by rw [hr]; exact hK
  repeat' (first
    | (refine imp_mk ?_; intro hh; first | contradiction | (exfalso; omega) | skip)
    | (refine s_X12_isSuspect en h1 (fun _ _ => ?_) (fun _ => ?_))
    | (refine s_X12_isScene em h2 (fun _ _ => ?_) (fun _ => ?_))
    | (exact hF (by omega))
    | (exact hK0 (by omega) (by omega))
    | ((refine hk _ ?_ (by omega) (by omega) (by omega) _ ?_ ?_ ?_ ?_ ?_ ?_))
    | refine And.intro ?_ ?_
    | omega)
  all_goals first
    | (intro q hq; (repeat rw [up_off hq]); done)
    | (intro k hk1 hk2; simp [up, hs] <;> omega)
    | (simp [up, hs] <;> omega)
theorem sim_observe : S_observe := by
  intro dd sh g hI a1 a2 a3 h1 h2 h3
  have hA := hI.s.ab
  have hs := hI.nn.s0
  obtain ⟨n, hn⟩ := Int.eq_ofNat_of_zero_le hs.2.1
  unfold SimI
  refine s_X11_observe hI.s (by omega) h1 h2 h3 (fun c => ?_) (fun c0 c c8 => ?_) (fun c0 c => ?_)
  · refine s_X12_observe hA hn (by omega) h1 h2 h3 (fun _ => ?_) (fun h => absurd c h) (fun h => absurd c h)
    refine ⟨rfl, ⟨by decide, by decide⟩, ?_⟩
    refine hI.step (g1 := up g 14 0 0) ?_ ⟨?_, ?_⟩ ?_ ?_ ?_ ?_
    · intro q hq; repeat rw [up_off (by omega)]
    · intro q hq; exact up_off (by omega)
    · intro k hk; rfl
    · exact hI.s.fr (by intro k hk; simp [up] <;> omega) (by intro p q hp hq; simp [up] <;> omega)
    · exact hI.nn.forget0 (by intro k hk; simp [up, hk]) (by simp [up]) (by intro k hk; simp [up, hk]) (by simp [up])
    · exact RHc.fr hI.h (by intro q hq; repeat rw [up_off (by omega)]) (by intro k hk; simp [up] <;> omega) (by simp [up]) (by simp [up])
    · simp [up]
  · refine s_X12_observe (n := n) hA hn (by omega) h1 h2 h3 (fun h => absurd h c0) (fun _ _ _ g3 f1 f2 f3 f4 f5 f6 => ?_) (fun _ h => absurd ⟨c, by omega⟩ h)
    have e : g 14 0 = n := by omega
    rw [e, show ((n : Int)).toNat = n from rfl] at f1 f2
    rw [e]
    refine ⟨rfl, ⟨by omega, by omega⟩, ?_⟩
    refine hI.step (g1 := up (up g 16 n ((a1 * 16 + a2) * 16 + a3)) 14 0 ((n : Int) + 1)) ?_ ⟨?_, ?_⟩ ?_ ?_ ?_ ?_
    · intro q hq; repeat rw [up_off (by omega)]
    · intro q hq; rw [f1 q (by omega)]
    · intro k hk; rw [f1 134 (by omega)]
    · refine RS.fr hI.s (fun k hk => ?_) (fun p q hp hq => ?_)
      · rw [f2 k (by omega) (by omega)]; rfl
      · rw [f2 _ (by omega) (by omega)]; rfl
    · refine RN.write0 (n := n) (x := a1) (y := a2) (z := a3) hI.nn (by omega) hn c.1 c.2 (by omega) (by intro k hk; simp [up, hk]) (by simp [up]) (by intro k hk; simp [up, hk]) (by simp [up]) (fun k hk1 hk2 => by rw [f2 k hk1 hk2]; rfl) f3 f4 f5 f6
    · refine RHc.fr hI.h (by intro q hq; repeat rw [up_off (by omega)]) (fun k hk => ?_) ?_ ?_
      · rw [f2 k (by omega) (by omega)]; rfl
      · rw [f2 0 (by omega) (by omega)]; exact Int.le_refl _
      · rw [f2 1 (by omega) (by omega)]; exact Int.le_refl _
    · rw [f2 2 (by omega) (by omega)]; rfl
  · refine s_X12_observe (n := n) hA hn (by omega) h1 h2 h3 (fun h => absurd h c0) (fun _ h h8 => absurd ⟨h, by omega⟩ c) (fun _ _ => ?_)
    exact ⟨rfl, ⟨by decide, by decide⟩, hI⟩
theorem s_X11_ahead {d : Nat} {dd : List (Nat × Nat)} {sh : Nat → Nat → Nat} {g : Nat → Nat → Int} {K : Int → (Nat → Nat → Int) → Prop} {v1 v2 : Int} {a : Nat → Int} (hS : RSc g a) (hs : 0 ≤ g 14 1 ∧ g 14 1 ≤ 8) (h1 : i32 v1) (h2 : i32 v2) (hF : v1 = -1 → K 0 (up g 14 1 0)) (hK : v1 ≠ -1 → (0 ≤ v1 ∧ v1 < a 1) ∧ (0 ≤ v2 ∧ v2 < a 1) ∧ v1 ≠ v2 → g 14 1 < 8 → K (g 14 1 + 1) (up (up g 17 (g 14 1).toNat ((v1 * 16 + v2) * 16 + 0)) 14 1 (g 14 1 + 1))) (hK0 : v1 ≠ -1 → ¬ (((0 ≤ v1 ∧ v1 < a 1) ∧ (0 ≤ v2 ∧ v2 < a 1) ∧ v1 ≠ v2) ∧ g 14 1 < 8) → K (-2) g) : cI (d + 2) m_X11_ahead [(vR 1), (vI v1), (vI v2)] dd sh g K := by
  have en := hS.n
  have em := hS.m
  refine mkI (ls := [some (vR 1), some (vI v1), some (vI v2)]) rfl rfl rfl rfl rfl (r_X11_ahead_0 ?_)
  repeat' (first
    | (refine imp_mk ?_; intro hh; first | contradiction | (exfalso; omega) | skip)
    | (refine s_X7_hasScene hS h1 (fun _ _ => ?_) (fun _ => ?_))
    | (refine s_X7_hasScene hS h2 (fun _ _ => ?_) (fun _ => ?_))
    | (refine s_write1 hs (fun _ => ?_) (fun _ => ?_))
    | (refine s_forget1 ?_)
    | (exact hF (by omega))
    | (exact hK (by omega) (by omega) (by omega))
    | (exact hK0 (by omega) (by omega))
    | refine And.intro ?_ ?_
    | omega)
theorem s_X12_ahead {d : Nat} {dd : List (Nat × Nat)} {sh : Nat → Nat → Nat} {g : Nat → Nat → Int} {K : Int → (Nat → Nat → Int) → Prop} {v1 v2 : Int} {n : Nat} (hA : AB (g 135)) (hs : g 135 6 = n) (hn : n ≤ 8) (h1 : i32 v1) (h2 : i32 v2) (hF : v1 = -1 → K 0 (up g 135 6 0)) (hK : v1 ≠ -1 → (0 ≤ v1 ∧ v1 < g 135 1) ∧ (0 ≤ v2 ∧ v2 < g 135 1) ∧ v1 ≠ v2 → n < 8 → ∀ g', (∀ q, q ≠ 135 → g' q = g q) → (∀ k, k ≠ 6 → (k < 110 + 2 * n ∨ 111 + 2 * n < k) → g' 135 k = g 135 k) → g' 135 6 = (n : Int) + 1 → g' 135 (110 + 2 * n) = v1 → g' 135 (111 + 2 * n) = v2 →  K ((n : Int) + 1) g') (hK0 : v1 ≠ -1 → ¬ (((0 ≤ v1 ∧ v1 < g 135 1) ∧ (0 ≤ v2 ∧ v2 < g 135 1) ∧ v1 ≠ v2) ∧ n < 8) → K (-2) g) : cI (d + 3) m_X12_ahead [(vR 134), (vI v1), (vI v2)] dd sh g K := by
  have en := hA.n
  have em := hA.m
  refine mkI (ls := [some (vR 134), some (vI v1), some (vI v2)]) rfl rfl rfl rfl rfl (r_X12_ahead_0 ?_)
  have hk : ∀ r, r = (n : Int) + 1 → v1 ≠ -1 → (0 ≤ v1 ∧ v1 < g 135 1) ∧ (0 ≤ v2 ∧ v2 < g 135 1) ∧ v1 ≠ v2 → n < 8 → ∀ g', (∀ q, q ≠ 135 → g' q = g q) → (∀ k, k ≠ 6 → (k < 110 + 2 * n ∨ 111 + 2 * n < k) → g' 135 k = g 135 k) → g' 135 6 = (n : Int) + 1 → g' 135 (110 + 2 * n) = v1 → g' 135 (111 + 2 * n) = v2 →  K r g' := fun r hr => by rw [hr]; exact hK
  repeat' (first
    | (refine imp_mk ?_; intro hh; first | contradiction | (exfalso; omega) | skip)
    | (refine s_X12_isScene em h1 (fun _ _ => ?_) (fun _ => ?_))
    | (refine s_X12_isScene em h2 (fun _ _ => ?_) (fun _ => ?_))
    | (exact hF (by omega))
    | (exact hK0 (by omega) (by omega))
    | ((refine hk _ ?_ (by omega) (by omega) (by omega) _ ?_ ?_ ?_ ?_ ?_))
    | refine And.intro ?_ ?_
    | omega)
  all_goals first
    | (intro q hq; (repeat rw [up_off hq]); done)
    | (intro k hk1 hk2; simp [up, hs] <;> omega)
    | (simp [up, hs] <;> omega)
theorem sim_ahead : S_ahead := by
  intro dd sh g hI a1 a2 h1 h2
  have hA := hI.s.ab
  have hs := hI.nn.s1
  obtain ⟨n, hn⟩ := Int.eq_ofNat_of_zero_le hs.2.1
  unfold SimI
  refine s_X11_ahead hI.s (by omega) h1 h2 (fun c => ?_) (fun c0 c c8 => ?_) (fun c0 c => ?_)
  · refine s_X12_ahead hA hn (by omega) h1 h2 (fun _ => ?_) (fun h => absurd c h) (fun h => absurd c h)
    refine ⟨rfl, ⟨by decide, by decide⟩, ?_⟩
    refine hI.step (g1 := up g 14 1 0) ?_ ⟨?_, ?_⟩ ?_ ?_ ?_ ?_
    · intro q hq; repeat rw [up_off (by omega)]
    · intro q hq; exact up_off (by omega)
    · intro k hk; rfl
    · exact hI.s.fr (by intro k hk; simp [up] <;> omega) (by intro p q hp hq; simp [up] <;> omega)
    · exact hI.nn.forget1 (by intro k hk; simp [up, hk]) (by simp [up]) (by intro k hk; simp [up, hk]) (by simp [up])
    · exact RHc.fr hI.h (by intro q hq; repeat rw [up_off (by omega)]) (by intro k hk; simp [up] <;> omega) (by simp [up]) (by simp [up])
    · simp [up]
  · refine s_X12_ahead (n := n) hA hn (by omega) h1 h2 (fun h => absurd h c0) (fun _ _ _ g3 f1 f2 f3 f4 f5 => ?_) (fun _ h => absurd ⟨c, by omega⟩ h)
    have e : g 14 1 = n := by omega
    rw [e, show ((n : Int)).toNat = n from rfl] at f1 f2
    rw [e]
    refine ⟨rfl, ⟨by omega, by omega⟩, ?_⟩
    refine hI.step (g1 := up (up g 17 n ((a1 * 16 + a2) * 16 + 0)) 14 1 ((n : Int) + 1)) ?_ ⟨?_, ?_⟩ ?_ ?_ ?_ ?_
    · intro q hq; repeat rw [up_off (by omega)]
    · intro q hq; rw [f1 q (by omega)]
    · intro k hk; rw [f1 134 (by omega)]
    · refine RS.fr hI.s (fun k hk => ?_) (fun p q hp hq => ?_)
      · rw [f2 k (by omega) (by omega)]; rfl
      · rw [f2 _ (by omega) (by omega)]; rfl
    · refine RN.write1 (n := n) (x := a1) (y := a2) hI.nn (by omega) hn c.1 c.2.1 (by intro k hk; simp [up, hk]) (by simp [up]) (by intro k hk; simp [up, hk]) (by simp [up]) (fun k hk1 hk2 => by rw [f2 k hk1 hk2]; rfl) f3 f4 f5
    · refine RHc.fr hI.h (by intro q hq; repeat rw [up_off (by omega)]) (fun k hk => ?_) ?_ ?_
      · rw [f2 k (by omega) (by omega)]; rfl
      · rw [f2 0 (by omega) (by omega)]; exact Int.le_refl _
      · rw [f2 1 (by omega) (by omega)]; exact Int.le_refl _
    · rw [f2 2 (by omega) (by omega)]; rfl
  · refine s_X12_ahead (n := n) hA hn (by omega) h1 h2 (fun h => absurd h c0) (fun _ h h8 => absurd ⟨h, by omega⟩ c) (fun _ _ => ?_)
    exact ⟨rfl, ⟨by decide, by decide⟩, hI⟩
theorem s_X11_torn {d : Nat} {dd : List (Nat × Nat)} {sh : Nat → Nat → Nat} {g : Nat → Nat → Int} {K : Int → (Nat → Nat → Int) → Prop} {v1 v2 v3 : Int} {a : Nat → Int} (hS : RSc g a) (hs : 0 ≤ g 14 2 ∧ g 14 2 ≤ 8) (h1 : i32 v1) (h2 : i32 v2) (h3 : v3 = 0 ∨ v3 = 1) (hF : v1 = -1 → K 0 (up g 14 2 0)) (hK : v1 ≠ -1 → (0 ≤ v1 ∧ v1 < a 0) ∧ (0 ≤ v2 ∧ v2 ≤ 3) → g 14 2 < 8 → K (g 14 2 + 1) (up (up g 18 (g 14 2).toNat ((v1 * 16 + v2) * 16 + v3)) 14 2 (g 14 2 + 1))) (hK0 : v1 ≠ -1 → ¬ (((0 ≤ v1 ∧ v1 < a 0) ∧ (0 ≤ v2 ∧ v2 ≤ 3)) ∧ g 14 2 < 8) → K (-2) g) : cI (d + 2) m_X11_torn [(vR 1), (vI v1), (vI v2), (vI v3)] dd sh g K := by
  have en := hS.n
  have em := hS.m
  refine mkI (ls := [some (vR 1), some (vI v1), some (vI v2), some (vI v3)]) rfl rfl rfl rfl rfl (r_X11_torn_0 ?_)
  rcases h3 with rfl | rfl
  · repeat' (first
      | (refine imp_mk ?_; intro hh; first | contradiction | (exfalso; omega) | skip)
      | (refine s_X7_hasSuspect hS h1 (fun _ _ => ?_) (fun _ => ?_))
      | (refine s_write2 hs (fun _ => ?_) (fun _ => ?_))
      | (refine s_forget2 ?_)
      | (exact hF (by omega))
      | (exact hK (by omega) (by omega) (by omega))
      | (exact hK0 (by omega) (by omega))
      | refine And.intro ?_ ?_
      | omega)
  · repeat' (first
      | (refine imp_mk ?_; intro hh; first | contradiction | (exfalso; omega) | skip)
      | (refine s_X7_hasSuspect hS h1 (fun _ _ => ?_) (fun _ => ?_))
      | (refine s_write2 hs (fun _ => ?_) (fun _ => ?_))
      | (refine s_forget2 ?_)
      | (exact hF (by omega))
      | (exact hK (by omega) (by omega) (by omega))
      | (exact hK0 (by omega) (by omega))
      | refine And.intro ?_ ?_
      | omega)
theorem s_X12_torn {d : Nat} {dd : List (Nat × Nat)} {sh : Nat → Nat → Nat} {g : Nat → Nat → Int} {K : Int → (Nat → Nat → Int) → Prop} {v1 v2 v3 : Int} {n : Nat} (hA : AB (g 135)) (hs : g 135 7 = n) (hn : n ≤ 8) (h1 : i32 v1) (h2 : i32 v2) (h3 : v3 = 0 ∨ v3 = 1) (hF : v1 = -1 → K 0 (up g 135 7 0)) (hK : v1 ≠ -1 → (0 ≤ v1 ∧ v1 < g 135 0) ∧ (0 ≤ v2 ∧ v2 ≤ 3) → n < 8 → ∀ g', (∀ q, q ≠ 135 → g' q = g q) → (∀ k, k ≠ 7 → (k < 126 + 3 * n ∨ 128 + 3 * n < k) → g' 135 k = g 135 k) → g' 135 7 = (n : Int) + 1 → g' 135 (126 + 3 * n) = v1 → g' 135 (127 + 3 * n) = v2 → g' 135 (128 + 3 * n) = v3 →  K ((n : Int) + 1) g') (hK0 : v1 ≠ -1 → ¬ (((0 ≤ v1 ∧ v1 < g 135 0) ∧ (0 ≤ v2 ∧ v2 ≤ 3)) ∧ n < 8) → K (-2) g) : cI (d + 3) m_X12_torn [(vR 134), (vI v1), (vI v2), (vI v3)] dd sh g K := by
  have en := hA.n
  have em := hA.m
  refine mkI (ls := [some (vR 134), some (vI v1), some (vI v2), some (vI v3), none]) rfl rfl rfl rfl rfl (r_X12_torn_0 ?_)
  have hk : ∀ r, r = (n : Int) + 1 → v1 ≠ -1 → (0 ≤ v1 ∧ v1 < g 135 0) ∧ (0 ≤ v2 ∧ v2 ≤ 3) → n < 8 → ∀ g', (∀ q, q ≠ 135 → g' q = g q) → (∀ k, k ≠ 7 → (k < 126 + 3 * n ∨ 128 + 3 * n < k) → g' 135 k = g 135 k) → g' 135 7 = (n : Int) + 1 → g' 135 (126 + 3 * n) = v1 → g' 135 (127 + 3 * n) = v2 → g' 135 (128 + 3 * n) = v3 →  K r g' := fun r hr => by rw [hr]; exact hK
  repeat' (first
    | (refine imp_mk ?_; intro hh; first | contradiction | (exfalso; omega) | skip)
    | (refine s_X12_isSuspect en h1 (fun _ _ => ?_) (fun _ => ?_))
    | (refine s_X12_isIn (by omega) (by omega) (by omega) (fun _ _ => ?_) (fun _ => ?_))
    | (exact hF (by omega))
    | (exact hK0 (by omega) (by omega))
    | ((refine hk _ ?_ (by omega) (by omega) (by omega) _ ?_ ?_ ?_ ?_ ?_ ?_))
    | refine And.intro ?_ ?_
    | omega)
  all_goals first
    | (intro q hq; (repeat rw [up_off hq]); done)
    | (intro k hk1 hk2; simp [up, hs] <;> omega)
    | (simp [up, hs] <;> omega)
theorem sim_torn : S_torn := by
  intro dd sh g hI a1 a2 a3 h1 h2 h3
  have hA := hI.s.ab
  have hs := hI.nn.s2
  obtain ⟨n, hn⟩ := Int.eq_ofNat_of_zero_le hs.2.1
  unfold SimI
  refine s_X11_torn hI.s (by omega) h1 h2 h3 (fun c => ?_) (fun c0 c c8 => ?_) (fun c0 c => ?_)
  · refine s_X12_torn hA hn (by omega) h1 h2 h3 (fun _ => ?_) (fun h => absurd c h) (fun h => absurd c h)
    refine ⟨rfl, ⟨by decide, by decide⟩, ?_⟩
    refine hI.step (g1 := up g 14 2 0) ?_ ⟨?_, ?_⟩ ?_ ?_ ?_ ?_
    · intro q hq; repeat rw [up_off (by omega)]
    · intro q hq; exact up_off (by omega)
    · intro k hk; rfl
    · exact hI.s.fr (by intro k hk; simp [up] <;> omega) (by intro p q hp hq; simp [up] <;> omega)
    · exact hI.nn.forget2 (by intro k hk; simp [up, hk]) (by simp [up]) (by intro k hk; simp [up, hk]) (by simp [up])
    · exact RHc.fr hI.h (by intro q hq; repeat rw [up_off (by omega)]) (by intro k hk; simp [up] <;> omega) (by simp [up]) (by simp [up])
    · simp [up]
  · refine s_X12_torn (n := n) hA hn (by omega) h1 h2 h3 (fun h => absurd h c0) (fun _ _ _ g3 f1 f2 f3 f4 f5 f6 => ?_) (fun _ h => absurd ⟨c, by omega⟩ h)
    have e : g 14 2 = n := by omega
    rw [e, show ((n : Int)).toNat = n from rfl] at f1 f2
    rw [e]
    refine ⟨rfl, ⟨by omega, by omega⟩, ?_⟩
    refine hI.step (g1 := up (up g 18 n ((a1 * 16 + a2) * 16 + a3)) 14 2 ((n : Int) + 1)) ?_ ⟨?_, ?_⟩ ?_ ?_ ?_ ?_
    · intro q hq; repeat rw [up_off (by omega)]
    · intro q hq; rw [f1 q (by omega)]
    · intro k hk; rw [f1 134 (by omega)]
    · refine RS.fr hI.s (fun k hk => ?_) (fun p q hp hq => ?_)
      · rw [f2 k (by omega) (by omega)]; rfl
      · rw [f2 _ (by omega) (by omega)]; rfl
    · refine RN.write2 (n := n) (x := a1) (y := a2) (z := a3) hI.nn (by omega) hn c.1 c.2 (by omega) (by intro k hk; simp [up, hk]) (by simp [up]) (by intro k hk; simp [up, hk]) (by simp [up]) (fun k hk1 hk2 => by rw [f2 k hk1 hk2]; rfl) f3 f4 f5 f6
    · refine RHc.fr hI.h (by intro q hq; repeat rw [up_off (by omega)]) (fun k hk => ?_) ?_ ?_
      · rw [f2 k (by omega) (by omega)]; rfl
      · rw [f2 0 (by omega) (by omega)]; exact Int.le_refl _
      · rw [f2 1 (by omega) (by omega)]; exact Int.le_refl _
    · rw [f2 2 (by omega) (by omega)]; rfl
  · refine s_X12_torn (n := n) hA hn (by omega) h1 h2 h3 (fun h => absurd h c0) (fun _ h h8 => absurd ⟨h, by omega⟩ c) (fun _ _ => ?_)
    exact ⟨rfl, ⟨by decide, by decide⟩, hI⟩
theorem s_X11_sign {d : Nat} {dd : List (Nat × Nat)} {sh : Nat → Nat → Nat} {g : Nat → Nat → Int} {K : Int → (Nat → Nat → Int) → Prop} {v1 v2 v3 : Int} {a : Nat → Int} (hS : RSc g a) (hs : 0 ≤ g 14 3 ∧ g 14 3 ≤ 8) (h1 : i32 v1) (h2 : i32 v2) (h3 : i32 v3) (hF : v1 = -1 → K 0 (up g 14 3 0)) (hK : v1 ≠ -1 → (0 ≤ v1 ∧ v1 < a 0) ∧ (0 ≤ v2 ∧ v2 < a 1) ∧ (0 ≤ v3 ∧ v3 ≤ 10) → g 14 3 < 8 → K (g 14 3 + 1) (up (up g 19 (g 14 3).toNat ((v1 * 16 + v2) * 16 + v3)) 14 3 (g 14 3 + 1))) (hK0 : v1 ≠ -1 → ¬ (((0 ≤ v1 ∧ v1 < a 0) ∧ (0 ≤ v2 ∧ v2 < a 1) ∧ (0 ≤ v3 ∧ v3 ≤ 10)) ∧ g 14 3 < 8) → K (-2) g) : cI (d + 3) m_X11_sign [(vR 1), (vI v1), (vI v2), (vI v3)] dd sh g K := by
  have en := hS.n
  have em := hS.m
  refine mkI (ls := [some (vR 1), some (vI v1), some (vI v2), some (vI v3)]) rfl rfl rfl rfl rfl (r_X11_sign_0 ?_)
  repeat' (first
    | (refine imp_mk ?_; intro hh; first | contradiction | (exfalso; omega) | skip)
    | (refine s_X7_hasBoth hS h1 h2 (fun _ _ _ _ => ?_) (fun _ => ?_))
    | (refine s_write3 hs (fun _ => ?_) (fun _ => ?_))
    | (refine s_forget3 ?_)
    | (exact hF (by omega))
    | (exact hK (by omega) (by omega) (by omega))
    | (exact hK0 (by omega) (by omega))
    | refine And.intro ?_ ?_
    | omega)
theorem s_X12_sign {d : Nat} {dd : List (Nat × Nat)} {sh : Nat → Nat → Nat} {g : Nat → Nat → Int} {K : Int → (Nat → Nat → Int) → Prop} {v1 v2 v3 : Int} {n : Nat} (hA : AB (g 135)) (hs : g 135 8 = n) (hn : n ≤ 8) (h1 : i32 v1) (h2 : i32 v2) (h3 : i32 v3) (hF : v1 = -1 → K 0 (up g 135 8 0)) (hK : v1 ≠ -1 → (0 ≤ v1 ∧ v1 < g 135 0) ∧ (0 ≤ v2 ∧ v2 < g 135 1) ∧ (0 ≤ v3 ∧ v3 ≤ 10) → n < 8 → ∀ g', (∀ q, q ≠ 135 → g' q = g q) → (∀ k, k ≠ 8 → (k < 150 + 3 * n ∨ 152 + 3 * n < k) → g' 135 k = g 135 k) → g' 135 8 = (n : Int) + 1 → g' 135 (150 + 3 * n) = v1 → g' 135 (151 + 3 * n) = v2 → g' 135 (152 + 3 * n) = v3 →  K ((n : Int) + 1) g') (hK0 : v1 ≠ -1 → ¬ (((0 ≤ v1 ∧ v1 < g 135 0) ∧ (0 ≤ v2 ∧ v2 < g 135 1) ∧ (0 ≤ v3 ∧ v3 ≤ 10)) ∧ n < 8) → K (-2) g) : cI (d + 3) m_X12_sign [(vR 134), (vI v1), (vI v2), (vI v3)] dd sh g K := by
  have en := hA.n
  have em := hA.m
  refine mkI (ls := [some (vR 134), some (vI v1), some (vI v2), some (vI v3), none]) rfl rfl rfl rfl rfl (r_X12_sign_0 ?_)
  have hk : ∀ r, r = (n : Int) + 1 → v1 ≠ -1 → (0 ≤ v1 ∧ v1 < g 135 0) ∧ (0 ≤ v2 ∧ v2 < g 135 1) ∧ (0 ≤ v3 ∧ v3 ≤ 10) → n < 8 → ∀ g', (∀ q, q ≠ 135 → g' q = g q) → (∀ k, k ≠ 8 → (k < 150 + 3 * n ∨ 152 + 3 * n < k) → g' 135 k = g 135 k) → g' 135 8 = (n : Int) + 1 → g' 135 (150 + 3 * n) = v1 → g' 135 (151 + 3 * n) = v2 → g' 135 (152 + 3 * n) = v3 →  K r g' := fun r hr => by rw [hr]; exact hK
  repeat' (first
    | (refine imp_mk ?_; intro hh; first | contradiction | (exfalso; omega) | skip)
    | (refine s_X12_isSuspect en h1 (fun _ _ => ?_) (fun _ => ?_))
    | (refine s_X12_isScene em h2 (fun _ _ => ?_) (fun _ => ?_))
    | (refine s_X12_isIn (by omega) (by omega) (by omega) (fun _ _ => ?_) (fun _ => ?_))
    | (exact hF (by omega))
    | (exact hK0 (by omega) (by omega))
    | ((refine hk _ ?_ (by omega) (by omega) (by omega) _ ?_ ?_ ?_ ?_ ?_ ?_))
    | refine And.intro ?_ ?_
    | omega)
  all_goals first
    | (intro q hq; (repeat rw [up_off hq]); done)
    | (intro k hk1 hk2; simp [up, hs] <;> omega)
    | (simp [up, hs] <;> omega)
theorem sim_sign : S_sign := by
  intro dd sh g hI a1 a2 a3 h1 h2 h3
  have hA := hI.s.ab
  have hs := hI.nn.s3
  obtain ⟨n, hn⟩ := Int.eq_ofNat_of_zero_le hs.2.1
  unfold SimI
  refine s_X11_sign hI.s (by omega) h1 h2 h3 (fun c => ?_) (fun c0 c c8 => ?_) (fun c0 c => ?_)
  · refine s_X12_sign hA hn (by omega) h1 h2 h3 (fun _ => ?_) (fun h => absurd c h) (fun h => absurd c h)
    refine ⟨rfl, ⟨by decide, by decide⟩, ?_⟩
    refine hI.step (g1 := up g 14 3 0) ?_ ⟨?_, ?_⟩ ?_ ?_ ?_ ?_
    · intro q hq; repeat rw [up_off (by omega)]
    · intro q hq; exact up_off (by omega)
    · intro k hk; rfl
    · exact hI.s.fr (by intro k hk; simp [up] <;> omega) (by intro p q hp hq; simp [up] <;> omega)
    · exact hI.nn.forget3 (by intro k hk; simp [up, hk]) (by simp [up]) (by intro k hk; simp [up, hk]) (by simp [up])
    · exact RHc.fr hI.h (by intro q hq; repeat rw [up_off (by omega)]) (by intro k hk; simp [up] <;> omega) (by simp [up]) (by simp [up])
    · simp [up]
  · refine s_X12_sign (n := n) hA hn (by omega) h1 h2 h3 (fun h => absurd h c0) (fun _ _ _ g3 f1 f2 f3 f4 f5 f6 => ?_) (fun _ h => absurd ⟨c, by omega⟩ h)
    have e : g 14 3 = n := by omega
    rw [e, show ((n : Int)).toNat = n from rfl] at f1 f2
    rw [e]
    refine ⟨rfl, ⟨by omega, by omega⟩, ?_⟩
    refine hI.step (g1 := up (up g 19 n ((a1 * 16 + a2) * 16 + a3)) 14 3 ((n : Int) + 1)) ?_ ⟨?_, ?_⟩ ?_ ?_ ?_ ?_
    · intro q hq; repeat rw [up_off (by omega)]
    · intro q hq; rw [f1 q (by omega)]
    · intro k hk; rw [f1 134 (by omega)]
    · refine RS.fr hI.s (fun k hk => ?_) (fun p q hp hq => ?_)
      · rw [f2 k (by omega) (by omega)]; rfl
      · rw [f2 _ (by omega) (by omega)]; rfl
    · refine RN.write3 (n := n) (x := a1) (y := a2) (z := a3) hI.nn (by omega) hn c.1 c.2.1 c.2.2 (by intro k hk; simp [up, hk]) (by simp [up]) (by intro k hk; simp [up, hk]) (by simp [up]) (fun k hk1 hk2 => by rw [f2 k hk1 hk2]; rfl) f3 f4 f5 f6
    · refine RHc.fr hI.h (by intro q hq; repeat rw [up_off (by omega)]) (fun k hk => ?_) ?_ ?_
      · rw [f2 k (by omega) (by omega)]; rfl
      · rw [f2 0 (by omega) (by omega)]; exact Int.le_refl _
      · rw [f2 1 (by omega) (by omega)]; exact Int.le_refl _
    · rw [f2 2 (by omega) (by omega)]; rfl
  · refine s_X12_sign (n := n) hA hn (by omega) h1 h2 h3 (fun h => absurd h c0) (fun _ h h8 => absurd ⟨h, by omega⟩ c) (fun _ _ => ?_)
    exact ⟨rfl, ⟨by decide, by decide⟩, hI⟩
