-- calls that only look
theorem sim_fault : S_fault := by
  intro dd sh g hI a1 h1
  obtain ⟨x1, x2, x3, x4, x5⟩ := hI.x
  unfold SimI
  refine mkI (ls := [some (vR 1), some (vI a1)]) rfl rfl rfl rfl rfl (r_X11_fault_0 ?_)
  repeat' (first
    | (refine imp_mk ?_; intro hh; first | contradiction | (exfalso; omega) | skip)
    | (refine mkI (ls := [some (vR 134), some (vI a1)]) rfl rfl rfl rfl rfl (r_X12_fault_0 ?_))
    | (exact hI)
    | refine And.intro ?_ ?_
    | omega)
theorem sim_is : S_is := by
  intro dd sh g hI a1 h1
  have e1 := hI.s.night
  have e2 := hI.s.tak
  have e3 := hI.s.x
  unfold SimI
  by_cases c0 : a1 = 0
  · subst c0
    refine mkI (ls := [some (vR 1), some (vI 0)]) rfl rfl rfl rfl rfl (r_X11_is_0 ?_)
    repeat' (first
      | (refine imp_mk ?_; intro hh; first | contradiction | (exfalso; omega) | skip)
      | (refine mkI (ls := [some (vR 134), some (vI 0)]) rfl rfl rfl rfl rfl (r_X12_is_0 ?_))
      | (refine s_X12_isIn (by omega) (by omega) (by omega) (fun _ _ => ?_) (fun h => absurd h (by omega)))
      | (exact e1.1)
      | (exact hI)
      | refine And.intro ?_ ?_
      | omega)
  by_cases c1 : a1 = 1
  · subst c1
    refine mkI (ls := [some (vR 1), some (vI 1)]) rfl rfl rfl rfl rfl (r_X11_is_0 ?_)
    repeat' (first
      | (refine imp_mk ?_; intro hh; first | contradiction | (exfalso; omega) | skip)
      | (refine mkI (ls := [some (vR 134), some (vI 1)]) rfl rfl rfl rfl rfl (r_X12_is_0 ?_))
      | (refine s_X12_isIn (by omega) (by omega) (by omega) (fun _ _ => ?_) (fun h => absurd h (by omega)))
      | (exact e2.1)
      | (exact hI)
      | refine And.intro ?_ ?_
      | omega)
  by_cases c2 : a1 = 2
  · subst c2
    refine mkI (ls := [some (vR 1), some (vI 2)]) rfl rfl rfl rfl rfl (r_X11_is_0 ?_)
    repeat' (first
      | (refine imp_mk ?_; intro hh; first | contradiction | (exfalso; omega) | skip)
      | (refine mkI (ls := [some (vR 134), some (vI 2)]) rfl rfl rfl rfl rfl (r_X12_is_0 ?_))
      | (refine s_X12_isIn (by omega) (by omega) (by omega) (fun _ _ => ?_) (fun h => absurd h (by omega)))
      | (exact e3.1)
      | (exact hI)
      | refine And.intro ?_ ?_
      | omega)
  refine mkI (ls := [some (vR 1), some (vI a1)]) rfl rfl rfl rfl rfl (r_X11_is_0 ?_)
  repeat' (first
    | (refine imp_mk ?_; intro hh; first | contradiction | (exfalso; omega) | skip)
    | (refine mkI (ls := [some (vR 134), some (vI a1)]) rfl rfl rfl rfl rfl (r_X12_is_0 ?_))
    | (refine s_X12_isIn (by omega) (by omega) (by omega) (fun _ _ => absurd h1 (by omega)) (fun _ => ?_))
    | (exact hI)
    | refine And.intro ?_ ?_
    | omega)
theorem sim_about : S_about := by
  intro dd sh g hI a1 h1
  have e0 := hI.s.n
  have e1 := hI.s.m
  have e2 := hI.h.tx
  have e3 := hI.h.ru
  have e4 := hI.h.st
  have e5 := hI.nn.s0
  have e6 := hI.nn.s1
  have e7 := hI.nn.s2
  have e8 := hI.nn.s3
  have e9 := hI.x.1
  unfold SimI
  by_cases c : 0 ≤ a1 ∧ a1 ≤ 8
  · obtain ⟨n, rfl⟩ := Int.eq_ofNat_of_zero_le c.1
    have ex : n = 0 ∨ n = 1 ∨ n = 2 ∨ n = 3 ∨ n = 4 ∨ n = 5 ∨ n = 6 ∨ n = 7 ∨ n = 8 := by omega
    rcases ex with rfl | rfl | rfl | rfl | rfl | rfl | rfl | rfl | rfl <;>
    · refine mkI (ls := [some (vR 1), some (vI _)]) rfl rfl rfl rfl rfl (r_X11_about_0 ?_)
      repeat' (first
        | (refine imp_mk ?_; intro hh; first | contradiction | (exfalso; omega) | skip)
        | (refine mkI (ls := [some (vR 134), some (vI _)]) rfl rfl rfl rfl rfl (r_X12_about_0 ?_))
        | (refine s_X12_isIn (by omega) (by omega) (by omega) (fun _ _ => ?_) (fun h => absurd h (by omega)))
        | (exact e0.1)
        | (exact e1.1)
        | (exact e2.1)
        | (exact e3.1)
        | (exact e4.1)
        | (exact e5.1)
        | (exact e6.1)
        | (exact e7.1)
        | (exact e8.1)
        | (exact hI)
        | refine And.intro ?_ ?_
        | omega)
  · refine mkI (ls := [some (vR 1), some (vI a1)]) rfl rfl rfl rfl rfl (r_X11_about_0 ?_)
    repeat' (first
      | (refine imp_mk ?_; intro hh; first | contradiction | (exfalso; omega) | skip)
      | (refine mkI (ls := [some (vR 134), some (vI a1)]) rfl rfl rfl rfl rfl (r_X12_about_0 ?_))
      | (refine s_X12_isIn (by omega) (by omega) (by omega) (fun _ _ => absurd c (by omega)) (fun _ => ?_))
      | (exact hI)
      | refine And.intro ?_ ?_
      | omega)
theorem sim_ofScene : S_ofScene := by
  intro dd sh g hI a1 a2 h1 h2
  have em := hI.s.m
  unfold SimI
  by_cases c : 0 ≤ a1 ∧ a1 < g 135 1
  · obtain ⟨n, rfl⟩ := Int.eq_ofNat_of_zero_le c.1
    have hc := hI.s.cc n (by omega) c.2
    have hb := hI.s.cb n (by omega)
    refine mkI (ls := [some (vR 1), some (vI ((n : Int))), some (vI a2), none]) rfl rfl rfl rfl rfl (r_X11_ofScene_0 ?_)
    refine s_X7_hasScene hI.s h1 (fun _ _ => ?_) (fun h => absurd h (by omega))
    have hr : ∀ (r : Int), (a2 < 0 ∨ 3 < a2) → cI 200 m_X12_ofScene [vR 134, vI (n : Int), vI a2] dd sh g (fun r' g3 => -1 = r' ∧ i32 (-1) ∧ Inv dd sh g3) := by
      intro r hr
      refine mkI (ls := [some (vR 134), some (vI ((n : Int))), some (vI a2)]) rfl rfl rfl rfl rfl (r_X12_ofScene_0 ?_)
      refine s_X12_isScene (by omega) h1 (fun _ _ => ?_) (fun h => absurd h (by omega))
      repeat' (first
        | (refine imp_mk ?_; intro hh; first | contradiction | (exfalso; omega) | skip)
        | (refine s_X12_isIn (by omega) (by omega) (by omega) (fun _ _ => absurd hr (by omega)) (fun _ => ?_))
        | (exact hI)
        | refine And.intro ?_ ?_
        | omega)
    have h0 : ∀ (r : Int), r = g 135 (58 + 4 * n) → a2 = 0 → cI 200 m_X12_ofScene [vR 134, vI (n : Int), vI a2] dd sh g (fun r' g3 => r = r' ∧ i32 r ∧ Inv dd sh g3) := by
      intro r hr he
      subst he
      refine mkI (ls := [some (vR 134), some (vI ((n : Int))), some (vI 0)]) rfl rfl rfl rfl rfl (r_X12_ofScene_0 ?_)
      refine s_X12_isScene (by omega) h1 (fun _ _ => ?_) (fun h => absurd h (by omega))
      repeat' (first
        | (refine imp_mk ?_; intro hh; first | contradiction | (exfalso; omega) | skip)
        | (refine s_X12_isIn (by omega) (by omega) (by omega) (fun _ _ => ?_) (fun h => absurd h (by omega)))
        | (refine s_of0 (by omega) ?_)
        | (exact hI)
        | refine And.intro ?_ ?_
        | omega)
    have h01 : ∀ (r : Int), r = g 135 (59 + 4 * n) → a2 = 1 → cI 200 m_X12_ofScene [vR 134, vI (n : Int), vI a2] dd sh g (fun r' g3 => r = r' ∧ i32 r ∧ Inv dd sh g3) := by
      intro r hr he
      subst he
      refine mkI (ls := [some (vR 134), some (vI ((n : Int))), some (vI 1)]) rfl rfl rfl rfl rfl (r_X12_ofScene_0 ?_)
      refine s_X12_isScene (by omega) h1 (fun _ _ => ?_) (fun h => absurd h (by omega))
      repeat' (first
        | (refine imp_mk ?_; intro hh; first | contradiction | (exfalso; omega) | skip)
        | (refine s_X12_isIn (by omega) (by omega) (by omega) (fun _ _ => ?_) (fun h => absurd h (by omega)))
        | (refine s_of1 (by omega) ?_)
        | (exact hI)
        | refine And.intro ?_ ?_
        | omega)
    have h02 : ∀ (r : Int), r = g 135 (60 + 4 * n) → i32 r → a2 = 2 → cI 200 m_X12_ofScene [vR 134, vI (n : Int), vI a2] dd sh g (fun r' g3 => r = r' ∧ i32 r ∧ Inv dd sh g3) := by
      intro r hr hr2 he
      subst he
      refine mkI (ls := [some (vR 134), some (vI ((n : Int))), some (vI 2)]) rfl rfl rfl rfl rfl (r_X12_ofScene_0 ?_)
      refine s_X12_isScene (by omega) h1 (fun _ _ => ?_) (fun h => absurd h (by omega))
      repeat' (first
        | (refine imp_mk ?_; intro hh; first | contradiction | (exfalso; omega) | skip)
        | (refine s_X12_isIn (by omega) (by omega) (by omega) (fun _ _ => ?_) (fun h => absurd h (by omega)))
        | (refine s_of2 (by omega) ?_)
        | (exact hI)
        | refine And.intro ?_ ?_
        | omega)
    have h03 : ∀ (r : Int), r = g 135 (61 + 4 * n) → i32 r → a2 = 3 → cI 200 m_X12_ofScene [vR 134, vI (n : Int), vI a2] dd sh g (fun r' g3 => r = r' ∧ i32 r ∧ Inv dd sh g3) := by
      intro r hr hr2 he
      subst he
      refine mkI (ls := [some (vR 134), some (vI ((n : Int))), some (vI 3)]) rfl rfl rfl rfl rfl (r_X12_ofScene_0 ?_)
      refine s_X12_isScene (by omega) h1 (fun _ _ => ?_) (fun h => absurd h (by omega))
      repeat' (first
        | (refine imp_mk ?_; intro hh; first | contradiction | (exfalso; omega) | skip)
        | (refine s_X12_isIn (by omega) (by omega) (by omega) (fun _ _ => ?_) (fun h => absurd h (by omega)))
        | (refine s_of3 (by omega) ?_)
        | (exact hI)
        | refine And.intro ?_ ?_
        | omega)
    repeat' (first
      | (refine imp_mk ?_; intro hh; first | contradiction | (exfalso; omega) | skip)
      | (refine s_X7_isCut hI.s (by omega) (by omega) (fun r _ _ _ => ?_))
      | (refine s_X7_isEncored hI.s (by omega) (by omega) (fun r _ _ _ => ?_))
      | (exact hr 0 (by omega))
      | (exact h0 _ hc.1 (by omega))
      | (exact h01 _ hc.2.1 (by omega))
      | (exact h02 _ (by omega) ⟨by omega, by omega⟩ (by omega))
      | (exact h03 _ (by omega) ⟨by omega, by omega⟩ (by omega))
      | refine And.intro ?_ ?_
      | omega)
  · refine mkI (ls := [some (vR 1), some (vI a1), some (vI a2), none]) rfl rfl rfl rfl rfl (r_X11_ofScene_0 ?_)
    refine s_X7_hasScene hI.s h1 (fun _ _ => absurd c (by omega)) (fun _ => ?_)
    repeat' (first
      | (refine imp_mk ?_; intro hh; first | contradiction | (exfalso; omega) | skip)
      | (refine mkI (ls := [some (vR 134), some (vI a1), some (vI a2)]) rfl rfl rfl rfl rfl (r_X12_ofScene_0 ?_))
      | (refine s_X12_isScene (by omega) h1 (fun _ _ => absurd c (by omega)) (fun _ => ?_))
      | (exact hI)
      | refine And.intro ?_ ?_
      | omega)
