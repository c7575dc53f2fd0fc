-- the law's cases: each goes on once its two calls answer alike and the invariant stands
theorem cI_imp {d M : Nat} {args : List V} {dd : List (Nat × Nat)} {sh : Nat → Nat → Nat} {g : Nat → Nat → Int} {K K' : Int → (Nat → Nat → Int) → Prop} (h : cI d M args dd sh g K) (f : ∀ a g', K a g' → K' a g') : cI d M args dd sh g K' := cI_mono h fun a g' hk => ⟨a, g', rfl, rfl, f a g' hk⟩
theorem cL_imp {d M : Nat} {args : List V} {dd : List (Nat × Nat)} {sh : Nat → Nat → Nat} {g : Nat → Nat → Int} {K K' : Int → (Nat → Nat → Int) → Prop} (h : cL d M args dd sh g K) (f : ∀ a g', K a g' → K' a g') : cL d M args dd sh g K' := cL_mono h fun a g' hk => ⟨a, g', rfl, rfl, f a g' hk⟩
theorem cV_imp {d M : Nat} {args : List V} {dd : List (Nat × Nat)} {sh : Nat → Nat → Nat} {g : Nat → Nat → Int} {K K' : (Nat → Nat → Int) → Prop} (h : cV d M args dd sh g K) (f : ∀ g', K g' → K' g') : cV d M args dd sh g K' := cV_mono h fun _ g' hk => ⟨g', rfl, f g' hk⟩
theorem cWI_imp {d M : Nat} {args : List V} {dd : List (Nat × Nat)} {sh : Nat → Nat → Nat} {g : Nat → Nat → Int} {K K' : Int → List (Nat × Nat) → (Nat → Nat → Nat) → (Nat → Nat → Int) → Prop} (h : cWI d M args dd sh g K) (f : ∀ a dd' sh' g', K a dd' sh' g' → K' a dd' sh' g') : cWI d M args dd sh g K' := cWI_mono h fun a dd' sh' g' hk => ⟨a, dd', sh', g', rfl, rfl, f a dd' sh' g' hk⟩
theorem lcmp_self (x : Int) : lcmpv x x = 0 := by unfold lcmpv; simp
/-- both calls answer alike and the invariant stands behind them -/
def SimI (M1 M2 : Nat) (as : List V) (dd : List (Nat × Nat)) (sh : Nat → Nat → Nat) (g : Nat → Nat → Int) : Prop :=
  cI 200 M1 (vR 1 :: as) dd sh g (fun r g2 => cI 200 M2 (vR 134 :: as) dd sh g2 (fun r' g3 => r = r' ∧ i32 r ∧ Inv dd sh g3))
def SimL (M1 M2 : Nat) (as : List V) (dd : List (Nat × Nat)) (sh : Nat → Nat → Nat) (g : Nat → Nat → Int) : Prop :=
  cL 200 M1 (vR 1 :: as) dd sh g (fun r g2 => cL 200 M2 (vR 134 :: as) dd sh g2 (fun r' g3 => r = r' ∧ i64 r ∧ Inv dd sh g3))
def SimW (M1 M2 : Nat) (as : List V) (dd : List (Nat × Nat)) (sh : Nat → Nat → Nat) (g : Nat → Nat → Int) : Prop :=
  cWI 200 M1 (vR 1 :: as) dd sh g (fun r dd' sh' g2 => cI 200 M2 (vR 134 :: as) dd' sh' g2 (fun r' g3 => r = r' ∧ i32 r ∧ Inv dd' sh' g3))
def S_suspect : Prop := ∀ (dd : List (Nat × Nat)) (sh : Nat → Nat → Nat) (g : Nat → Nat → Int), Inv dd sh g → ∀ a1 a2 a3 : Int, (a1 = 0 ∨ a1 = 1) → i32 a2 → i32 a3 → SimI m_X11_suspect m_X12_suspect [vI a1, vI a2, vI a3] dd sh g
theorem lc_suspect {sc : List Int} {k n : Nat} {dd : List (Nat × Nat)} {sh : Nat → Nat → Nat} {g : Nat → Nat → Int} {v3 : Int} (hv : 0 ≤ v3 ∧ v3 + 6 ≤ (sc.length : Int)) (hi : ∀ j, i32 (sc.getD j 0)) (hI : Inv dd sh g) (S : S_suspect)
    (next : ∀ dd' sh' g', Inv dd' sh' g' → LR sc 200 k n 2023 [some (vZ 0), some (vR 1), some (vR 134), some (vI v3)] [] (St dd' sh' g')) : LR sc 200 k n 276 [some (vZ 0), some (vR 1), some (vR 134), some (vI v3)] [] (St dd sh g) := by
  refine r_law_276 (by omega) ?_
  repeat' (first
    | exact hi _
    | (refine cI_imp (S dd sh g hI _ _ _ (by first | exact Or.inl rfl | exact Or.inr rfl) (hi _) (hi _)) ?_; intro r g2 h2)
    | contradiction
    | (exact cI_imp h2 fun r2 g3 ⟨e, i, hI2⟩ => ⟨i, by rw [← e]; exact i, fun _ => next dd sh g3 hI2, fun q => absurd e q⟩)
    | omega
    | refine And.intro ?_ ?_
    | intro h)
def S_scene : Prop := ∀ (dd : List (Nat × Nat)) (sh : Nat → Nat → Nat) (g : Nat → Nat → Int), Inv dd sh g → ∀ a1 a2 : Int, i32 a1 → i32 a2 → SimI m_X11_scene m_X12_scene [vI a1, vI a2] dd sh g
theorem lc_scene {sc : List Int} {k n : Nat} {dd : List (Nat × Nat)} {sh : Nat → Nat → Nat} {g : Nat → Nat → Int} {v3 : Int} (hv : 0 ≤ v3 ∧ v3 + 6 ≤ (sc.length : Int)) (hi : ∀ j, i32 (sc.getD j 0)) (hI : Inv dd sh g) (S : S_scene)
    (next : ∀ dd' sh' g', Inv dd' sh' g' → LR sc 200 k n 2023 [some (vZ 0), some (vR 1), some (vR 134), some (vI v3)] [] (St dd' sh' g')) : LR sc 200 k n 335 [some (vZ 0), some (vR 1), some (vR 134), some (vI v3)] [] (St dd sh g) := by
  refine r_law_335 (by omega) ?_
  repeat' (first
    | exact hi _
    | (refine cI_imp (S dd sh g hI _ _ (hi _) (hi _)) ?_; intro r g2 h2)
    | contradiction
    | (exact cI_imp h2 fun r2 g3 ⟨e, i, hI2⟩ => ⟨i, by rw [← e]; exact i, fun _ => next dd sh g3 hI2, fun q => absurd e q⟩)
    | omega
    | refine And.intro ?_ ?_
    | intro h)
def S_feed : Prop := ∀ (dd : List (Nat × Nat)) (sh : Nat → Nat → Nat) (g : Nat → Nat → Int), Inv dd sh g → ∀ a1 a2 a3 a4 a5 : Int, i32 a1 → i32 a2 → i32 a3 → i32 a4 → i32 a5 → SimI m_X11_feed m_X12_feed [vI a1, vI a2, vI a3, vI a4, vI a5] dd sh g
theorem lc_feed {sc : List Int} {k n : Nat} {dd : List (Nat × Nat)} {sh : Nat → Nat → Nat} {g : Nat → Nat → Int} {v3 : Int} (hv : 0 ≤ v3 ∧ v3 + 6 ≤ (sc.length : Int)) (hi : ∀ j, i32 (sc.getD j 0)) (hI : Inv dd sh g) (S : S_feed)
    (next : ∀ dd' sh' g', Inv dd' sh' g' → LR sc 200 k n 2023 [some (vZ 0), some (vR 1), some (vR 134), some (vI v3)] [] (St dd' sh' g')) : LR sc 200 k n 368 [some (vZ 0), some (vR 1), some (vR 134), some (vI v3)] [] (St dd sh g) := by
  refine r_law_368 (by omega) ?_
  repeat' (first
    | exact hi _
    | (refine cI_imp (S dd sh g hI _ _ _ _ _ (hi _) (hi _) (hi _) (hi _) (hi _)) ?_; intro r g2 h2)
    | contradiction
    | (exact cI_imp h2 fun r2 g3 ⟨e, i, hI2⟩ => ⟨i, by rw [← e]; exact i, fun _ => next dd sh g3 hI2, fun q => absurd e q⟩)
    | omega
    | refine And.intro ?_ ?_
    | intro h)
def S_end : Prop := ∀ (dd : List (Nat × Nat)) (sh : Nat → Nat → Nat) (g : Nat → Nat → Int), Inv dd sh g → ∀ a1 : Int, i32 a1 → SimI m_X11_end m_X12_end [vI a1] dd sh g
theorem lc_end {sc : List Int} {k n : Nat} {dd : List (Nat × Nat)} {sh : Nat → Nat → Nat} {g : Nat → Nat → Int} {v3 : Int} (hv : 0 ≤ v3 ∧ v3 + 6 ≤ (sc.length : Int)) (hi : ∀ j, i32 (sc.getD j 0)) (hI : Inv dd sh g) (S : S_end)
    (next : ∀ dd' sh' g', Inv dd' sh' g' → LR sc 200 k n 2023 [some (vZ 0), some (vR 1), some (vR 134), some (vI v3)] [] (St dd' sh' g')) : LR sc 200 k n 431 [some (vZ 0), some (vR 1), some (vR 134), some (vI v3)] [] (St dd sh g) := by
  refine r_law_431 (by omega) ?_
  repeat' (first
    | exact hi _
    | (refine cI_imp (S dd sh g hI _ (hi _)) ?_; intro r g2 h2)
    | contradiction
    | (exact cI_imp h2 fun r2 g3 ⟨e, i, hI2⟩ => ⟨i, by rw [← e]; exact i, fun _ => next dd sh g3 hI2, fun q => absurd e q⟩)
    | omega
    | refine And.intro ?_ ?_
    | intro h)
def S_text : Prop := ∀ (dd : List (Nat × Nat)) (sh : Nat → Nat → Nat) (g : Nat → Nat → Int), Inv dd sh g → SimW m_X11_text m_X12_text [] dd sh g
theorem lc_text {sc : List Int} {k n : Nat} {dd : List (Nat × Nat)} {sh : Nat → Nat → Nat} {g : Nat → Nat → Int} {v3 : Int} (hv : 0 ≤ v3 ∧ v3 + 6 ≤ (sc.length : Int)) (hi : ∀ j, i32 (sc.getD j 0)) (hI : Inv dd sh g) (hk : 7 ≤ k) (hn : 385 ≤ n) (S : S_text)
    (next : ∀ dd' sh' g', Inv dd' sh' g' → LR sc 200 (k - 7) (n - 385) 2023 [some (vZ 0), some (vR 1), some (vR 134), some (vI v3)] [] (St dd' sh' g')) : LR sc 200 k n 454 [some (vZ 0), some (vR 1), some (vR 134), some (vI v3)] [] (St dd sh g) := by
  refine r_law_454 (by omega) ?_
  repeat' (first
    | exact hi _
    | (refine cWI_imp (S dd sh g hI) ?_; intro r dd2 sh2 g2 h2)
    | contradiction
    | (exact cI_imp h2 fun r2 g3 ⟨e, i, hI2⟩ => ⟨i, by rw [← e]; exact i, fun _ => next dd2 sh2 g3 hI2, fun q => absurd e q⟩)
    | omega
    | refine And.intro ?_ ?_
    | intro h)
def S_fault : Prop := ∀ (dd : List (Nat × Nat)) (sh : Nat → Nat → Nat) (g : Nat → Nat → Int), Inv dd sh g → ∀ a1 : Int, i32 a1 → SimI m_X11_fault m_X12_fault [vI a1] dd sh g
theorem lc_fault {sc : List Int} {k n : Nat} {dd : List (Nat × Nat)} {sh : Nat → Nat → Nat} {g : Nat → Nat → Int} {v3 : Int} (hv : 0 ≤ v3 ∧ v3 + 6 ≤ (sc.length : Int)) (hi : ∀ j, i32 (sc.getD j 0)) (hI : Inv dd sh g) (S : S_fault)
    (next : ∀ dd' sh' g', Inv dd' sh' g' → LR sc 200 k n 2023 [some (vZ 0), some (vR 1), some (vR 134), some (vI v3)] [] (St dd' sh' g')) : LR sc 200 k n 467 [some (vZ 0), some (vR 1), some (vR 134), some (vI v3)] [] (St dd sh g) := by
  refine r_law_467 (by omega) ?_
  repeat' (first
    | exact hi _
    | (refine cI_imp (S dd sh g hI _ (hi _)) ?_; intro r g2 h2)
    | contradiction
    | (exact cI_imp h2 fun r2 g3 ⟨e, i, hI2⟩ => ⟨i, by rw [← e]; exact i, fun _ => next dd sh g3 hI2, fun q => absurd e q⟩)
    | omega
    | refine And.intro ?_ ?_
    | intro h)
def S_by : Prop := ∀ (dd : List (Nat × Nat)) (sh : Nat → Nat → Nat) (g : Nat → Nat → Int), Inv dd sh g → ∀ a1 : Int, i32 a1 → SimI m_X11_by m_X12_by [vI a1] dd sh g
theorem lc_by {sc : List Int} {k n : Nat} {dd : List (Nat × Nat)} {sh : Nat → Nat → Nat} {g : Nat → Nat → Int} {v3 : Int} (hv : 0 ≤ v3 ∧ v3 + 6 ≤ (sc.length : Int)) (hi : ∀ j, i32 (sc.getD j 0)) (hI : Inv dd sh g) (S : S_by)
    (next : ∀ dd' sh' g', Inv dd' sh' g' → LR sc 200 k n 2023 [some (vZ 0), some (vR 1), some (vR 134), some (vI v3)] [] (St dd' sh' g')) : LR sc 200 k n 490 [some (vZ 0), some (vR 1), some (vR 134), some (vI v3)] [] (St dd sh g) := by
  refine r_law_490 (by omega) ?_
  repeat' (first
    | exact hi _
    | (refine cI_imp (S dd sh g hI _ (hi _)) ?_; intro r g2 h2)
    | contradiction
    | (exact cI_imp h2 fun r2 g3 ⟨e, i, hI2⟩ => ⟨i, by rw [← e]; exact i, fun _ => next dd sh g3 hI2, fun q => absurd e q⟩)
    | omega
    | refine And.intro ?_ ?_
    | intro h)
def S_cut : Prop := ∀ (dd : List (Nat × Nat)) (sh : Nat → Nat → Nat) (g : Nat → Nat → Int), Inv dd sh g → ∀ a1 : Int, i32 a1 → SimI m_X11_cut m_X12_cut [vI a1] dd sh g
theorem lc_cut {sc : List Int} {k n : Nat} {dd : List (Nat × Nat)} {sh : Nat → Nat → Nat} {g : Nat → Nat → Int} {v3 : Int} (hv : 0 ≤ v3 ∧ v3 + 6 ≤ (sc.length : Int)) (hi : ∀ j, i32 (sc.getD j 0)) (hI : Inv dd sh g) (S : S_cut)
    (next : ∀ dd' sh' g', Inv dd' sh' g' → LR sc 200 k n 2023 [some (vZ 0), some (vR 1), some (vR 134), some (vI v3)] [] (St dd' sh' g')) : LR sc 200 k n 513 [some (vZ 0), some (vR 1), some (vR 134), some (vI v3)] [] (St dd sh g) := by
  refine r_law_513 (by omega) ?_
  repeat' (first
    | exact hi _
    | (refine cI_imp (S dd sh g hI _ (hi _)) ?_; intro r g2 h2)
    | contradiction
    | (exact cI_imp h2 fun r2 g3 ⟨e, i, hI2⟩ => ⟨i, by rw [← e]; exact i, fun _ => next dd sh g3 hI2, fun q => absurd e q⟩)
    | omega
    | refine And.intro ?_ ?_
    | intro h)
def S_encore : Prop := ∀ (dd : List (Nat × Nat)) (sh : Nat → Nat → Nat) (g : Nat → Nat → Int), Inv dd sh g → ∀ a1 : Int, i32 a1 → SimI m_X11_encore m_X12_encore [vI a1] dd sh g
theorem lc_encore {sc : List Int} {k n : Nat} {dd : List (Nat × Nat)} {sh : Nat → Nat → Nat} {g : Nat → Nat → Int} {v3 : Int} (hv : 0 ≤ v3 ∧ v3 + 6 ≤ (sc.length : Int)) (hi : ∀ j, i32 (sc.getD j 0)) (hI : Inv dd sh g) (S : S_encore)
    (next : ∀ dd' sh' g', Inv dd' sh' g' → LR sc 200 k n 2023 [some (vZ 0), some (vR 1), some (vR 134), some (vI v3)] [] (St dd' sh' g')) : LR sc 200 k n 536 [some (vZ 0), some (vR 1), some (vR 134), some (vI v3)] [] (St dd sh g) := by
  refine r_law_536 (by omega) ?_
  repeat' (first
    | exact hi _
    | (refine cI_imp (S dd sh g hI _ (hi _)) ?_; intro r g2 h2)
    | contradiction
    | (exact cI_imp h2 fun r2 g3 ⟨e, i, hI2⟩ => ⟨i, by rw [← e]; exact i, fun _ => next dd sh g3 hI2, fun q => absurd e q⟩)
    | omega
    | refine And.intro ?_ ?_
    | intro h)
def S_away : Prop := ∀ (dd : List (Nat × Nat)) (sh : Nat → Nat → Nat) (g : Nat → Nat → Int), Inv dd sh g → ∀ a1 : Int, i32 a1 → SimI m_X11_away m_X12_away [vI a1] dd sh g
theorem lc_away {sc : List Int} {k n : Nat} {dd : List (Nat × Nat)} {sh : Nat → Nat → Nat} {g : Nat → Nat → Int} {v3 : Int} (hv : 0 ≤ v3 ∧ v3 + 6 ≤ (sc.length : Int)) (hi : ∀ j, i32 (sc.getD j 0)) (hI : Inv dd sh g) (S : S_away)
    (next : ∀ dd' sh' g', Inv dd' sh' g' → LR sc 200 k n 2023 [some (vZ 0), some (vR 1), some (vR 134), some (vI v3)] [] (St dd' sh' g')) : LR sc 200 k n 559 [some (vZ 0), some (vR 1), some (vR 134), some (vI v3)] [] (St dd sh g) := by
  refine r_law_559 (by omega) ?_
  repeat' (first
    | exact hi _
    | (refine cI_imp (S dd sh g hI _ (hi _)) ?_; intro r g2 h2)
    | contradiction
    | (exact cI_imp h2 fun r2 g3 ⟨e, i, hI2⟩ => ⟨i, by rw [← e]; exact i, fun _ => next dd sh g3 hI2, fun q => absurd e q⟩)
    | omega
    | refine And.intro ?_ ?_
    | intro h)
def S_seat : Prop := ∀ (dd : List (Nat × Nat)) (sh : Nat → Nat → Nat) (g : Nat → Nat → Int), Inv dd sh g → ∀ a1 a2 : Int, i32 a1 → i32 a2 → SimI m_X11_seat m_X12_seat [vI a1, vI a2] dd sh g
theorem lc_seat {sc : List Int} {k n : Nat} {dd : List (Nat × Nat)} {sh : Nat → Nat → Nat} {g : Nat → Nat → Int} {v3 : Int} (hv : 0 ≤ v3 ∧ v3 + 6 ≤ (sc.length : Int)) (hi : ∀ j, i32 (sc.getD j 0)) (hI : Inv dd sh g) (S : S_seat)
    (next : ∀ dd' sh' g', Inv dd' sh' g' → LR sc 200 k n 2023 [some (vZ 0), some (vR 1), some (vR 134), some (vI v3)] [] (St dd' sh' g')) : LR sc 200 k n 582 [some (vZ 0), some (vR 1), some (vR 134), some (vI v3)] [] (St dd sh g) := by
  refine r_law_582 (by omega) ?_
  repeat' (first
    | exact hi _
    | (refine cI_imp (S dd sh g hI _ _ (hi _) (hi _)) ?_; intro r g2 h2)
    | contradiction
    | (exact cI_imp h2 fun r2 g3 ⟨e, i, hI2⟩ => ⟨i, by rw [← e]; exact i, fun _ => next dd sh g3 hI2, fun q => absurd e q⟩)
    | omega
    | refine And.intro ?_ ?_
    | intro h)
def S_night : Prop := ∀ (dd : List (Nat × Nat)) (sh : Nat → Nat → Nat) (g : Nat → Nat → Int), Inv dd sh g → ∀ a1 : Int, i32 a1 → SimI m_X11_night m_X12_night [vI a1] dd sh g
theorem lc_night {sc : List Int} {k n : Nat} {dd : List (Nat × Nat)} {sh : Nat → Nat → Nat} {g : Nat → Nat → Int} {v3 : Int} (hv : 0 ≤ v3 ∧ v3 + 6 ≤ (sc.length : Int)) (hi : ∀ j, i32 (sc.getD j 0)) (hI : Inv dd sh g) (S : S_night)
    (next : ∀ dd' sh' g', Inv dd' sh' g' → LR sc 200 k n 2023 [some (vZ 0), some (vR 1), some (vR 134), some (vI v3)] [] (St dd' sh' g')) : LR sc 200 k n 615 [some (vZ 0), some (vR 1), some (vR 134), some (vI v3)] [] (St dd sh g) := by
  refine r_law_615 (by omega) ?_
  repeat' (first
    | exact hi _
    | (refine cI_imp (S dd sh g hI _ (hi _)) ?_; intro r g2 h2)
    | contradiction
    | (exact cI_imp h2 fun r2 g3 ⟨e, i, hI2⟩ => ⟨i, by rw [← e]; exact i, fun _ => next dd sh g3 hI2, fun q => absurd e q⟩)
    | omega
    | refine And.intro ?_ ?_
    | intro h)
def S_played : Prop := ∀ (dd : List (Nat × Nat)) (sh : Nat → Nat → Nat) (g : Nat → Nat → Int), Inv dd sh g → ∀ a1 : Int, i32 a1 → SimI m_X11_played m_X12_played [vI a1] dd sh g
theorem lc_played {sc : List Int} {k n : Nat} {dd : List (Nat × Nat)} {sh : Nat → Nat → Nat} {g : Nat → Nat → Int} {v3 : Int} (hv : 0 ≤ v3 ∧ v3 + 6 ≤ (sc.length : Int)) (hi : ∀ j, i32 (sc.getD j 0)) (hI : Inv dd sh g) (S : S_played)
    (next : ∀ dd' sh' g', Inv dd' sh' g' → LR sc 200 k n 2023 [some (vZ 0), some (vR 1), some (vR 134), some (vI v3)] [] (St dd' sh' g')) : LR sc 200 k n 638 [some (vZ 0), some (vR 1), some (vR 134), some (vI v3)] [] (St dd sh g) := by
  refine r_law_638 (by omega) ?_
  repeat' (first
    | exact hi _
    | (refine cI_imp (S dd sh g hI _ (hi _)) ?_; intro r g2 h2)
    | contradiction
    | (exact cI_imp h2 fun r2 g3 ⟨e, i, hI2⟩ => ⟨i, by rw [← e]; exact i, fun _ => next dd sh g3 hI2, fun q => absurd e q⟩)
    | omega
    | refine And.intro ?_ ?_
    | intro h)
def S_seasons : Prop := ∀ (dd : List (Nat × Nat)) (sh : Nat → Nat → Nat) (g : Nat → Nat → Int), Inv dd sh g → ∀ a1 a2 : Int, i32 a1 → i32 a2 → SimI m_X11_seasons m_X12_seasons [vI a1, vI a2] dd sh g
theorem lc_seasons {sc : List Int} {k n : Nat} {dd : List (Nat × Nat)} {sh : Nat → Nat → Nat} {g : Nat → Nat → Int} {v3 : Int} (hv : 0 ≤ v3 ∧ v3 + 6 ≤ (sc.length : Int)) (hi : ∀ j, i32 (sc.getD j 0)) (hI : Inv dd sh g) (S : S_seasons)
    (next : ∀ dd' sh' g', Inv dd' sh' g' → LR sc 200 k n 2023 [some (vZ 0), some (vR 1), some (vR 134), some (vI v3)] [] (St dd' sh' g')) : LR sc 200 k n 661 [some (vZ 0), some (vR 1), some (vR 134), some (vI v3)] [] (St dd sh g) := by
  refine r_law_661 (by omega) ?_
  repeat' (first
    | exact hi _
    | (refine cI_imp (S dd sh g hI _ _ (hi _) (hi _)) ?_; intro r g2 h2)
    | contradiction
    | (exact cI_imp h2 fun r2 g3 ⟨e, i, hI2⟩ => ⟨i, by rw [← e]; exact i, fun _ => next dd sh g3 hI2, fun q => absurd e q⟩)
    | omega
    | refine And.intro ?_ ?_
    | intro h)
def S_undo : Prop := ∀ (dd : List (Nat × Nat)) (sh : Nat → Nat → Nat) (g : Nat → Nat → Int), Inv dd sh g → SimI m_X11_undo m_X12_undo [] dd sh g
theorem lc_undo {sc : List Int} {k n : Nat} {dd : List (Nat × Nat)} {sh : Nat → Nat → Nat} {g : Nat → Nat → Int} {v3 : Int} (hv : 0 ≤ v3 ∧ v3 + 6 ≤ (sc.length : Int)) (hi : ∀ j, i32 (sc.getD j 0)) (hI : Inv dd sh g) (S : S_undo)
    (next : ∀ dd' sh' g', Inv dd' sh' g' → LR sc 200 k n 2023 [some (vZ 0), some (vR 1), some (vR 134), some (vI v3)] [] (St dd' sh' g')) : LR sc 200 k n 694 [some (vZ 0), some (vR 1), some (vR 134), some (vI v3)] [] (St dd sh g) := by
  refine r_law_694 (by omega) ?_
  repeat' (first
    | exact hi _
    | (refine cI_imp (S dd sh g hI) ?_; intro r g2 h2)
    | contradiction
    | (exact cI_imp h2 fun r2 g3 ⟨e, i, hI2⟩ => ⟨i, by rw [← e]; exact i, fun _ => next dd sh g3 hI2, fun q => absurd e q⟩)
    | omega
    | refine And.intro ?_ ?_
    | intro h)
def S_ofSuspect : Prop := ∀ (dd : List (Nat × Nat)) (sh : Nat → Nat → Nat) (g : Nat → Nat → Int), Inv dd sh g → ∀ a1 a2 : Int, i32 a1 → i32 a2 → SimI m_X11_ofSuspect m_X12_ofSuspect [vI a1, vI a2] dd sh g
theorem lc_ofSuspect {sc : List Int} {k n : Nat} {dd : List (Nat × Nat)} {sh : Nat → Nat → Nat} {g : Nat → Nat → Int} {v3 : Int} (hv : 0 ≤ v3 ∧ v3 + 6 ≤ (sc.length : Int)) (hi : ∀ j, i32 (sc.getD j 0)) (hI : Inv dd sh g) (S : S_ofSuspect)
    (next : ∀ dd' sh' g', Inv dd' sh' g' → LR sc 200 k n 2023 [some (vZ 0), some (vR 1), some (vR 134), some (vI v3)] [] (St dd' sh' g')) : LR sc 200 k n 707 [some (vZ 0), some (vR 1), some (vR 134), some (vI v3)] [] (St dd sh g) := by
  refine r_law_707 (by omega) ?_
  repeat' (first
    | exact hi _
    | (refine cI_imp (S dd sh g hI _ _ (hi _) (hi _)) ?_; intro r g2 h2)
    | contradiction
    | (exact cI_imp h2 fun r2 g3 ⟨e, i, hI2⟩ => ⟨i, by rw [← e]; exact i, fun _ => next dd sh g3 hI2, fun q => absurd e q⟩)
    | omega
    | refine And.intro ?_ ?_
    | intro h)
def S_ofScene : Prop := ∀ (dd : List (Nat × Nat)) (sh : Nat → Nat → Nat) (g : Nat → Nat → Int), Inv dd sh g → ∀ a1 a2 : Int, i32 a1 → i32 a2 → SimI m_X11_ofScene m_X12_ofScene [vI a1, vI a2] dd sh g
theorem lc_ofScene {sc : List Int} {k n : Nat} {dd : List (Nat × Nat)} {sh : Nat → Nat → Nat} {g : Nat → Nat → Int} {v3 : Int} (hv : 0 ≤ v3 ∧ v3 + 6 ≤ (sc.length : Int)) (hi : ∀ j, i32 (sc.getD j 0)) (hI : Inv dd sh g) (S : S_ofScene)
    (next : ∀ dd' sh' g', Inv dd' sh' g' → LR sc 200 k n 2023 [some (vZ 0), some (vR 1), some (vR 134), some (vI v3)] [] (St dd' sh' g')) : LR sc 200 k n 740 [some (vZ 0), some (vR 1), some (vR 134), some (vI v3)] [] (St dd sh g) := by
  refine r_law_740 (by omega) ?_
  repeat' (first
    | exact hi _
    | (refine cI_imp (S dd sh g hI _ _ (hi _) (hi _)) ?_; intro r g2 h2)
    | contradiction
    | (exact cI_imp h2 fun r2 g3 ⟨e, i, hI2⟩ => ⟨i, by rw [← e]; exact i, fun _ => next dd sh g3 hI2, fun q => absurd e q⟩)
    | omega
    | refine And.intro ?_ ?_
    | intro h)
def S_is : Prop := ∀ (dd : List (Nat × Nat)) (sh : Nat → Nat → Nat) (g : Nat → Nat → Int), Inv dd sh g → ∀ a1 : Int, i32 a1 → SimI m_X11_is m_X12_is [vI a1] dd sh g
theorem lc_is {sc : List Int} {k n : Nat} {dd : List (Nat × Nat)} {sh : Nat → Nat → Nat} {g : Nat → Nat → Int} {v3 : Int} (hv : 0 ≤ v3 ∧ v3 + 6 ≤ (sc.length : Int)) (hi : ∀ j, i32 (sc.getD j 0)) (hI : Inv dd sh g) (S : S_is)
    (next : ∀ dd' sh' g', Inv dd' sh' g' → LR sc 200 k n 2023 [some (vZ 0), some (vR 1), some (vR 134), some (vI v3)] [] (St dd' sh' g')) : LR sc 200 k n 773 [some (vZ 0), some (vR 1), some (vR 134), some (vI v3)] [] (St dd sh g) := by
  refine r_law_773 (by omega) ?_
  repeat' (first
    | exact hi _
    | (refine cI_imp (S dd sh g hI _ (hi _)) ?_; intro r g2 h2)
    | contradiction
    | (exact cI_imp h2 fun r2 g3 ⟨e, i, hI2⟩ => ⟨i, by rw [← e]; exact i, fun _ => next dd sh g3 hI2, fun q => absurd e q⟩)
    | omega
    | refine And.intro ?_ ?_
    | intro h)
def S_book : Prop := ∀ (dd : List (Nat × Nat)) (sh : Nat → Nat → Nat) (g : Nat → Nat → Int), Inv dd sh g → ∀ a1 a2 : Int, i32 a1 → i32 a2 → SimI m_X11_book m_X12_book [vI a1, vI a2] dd sh g
theorem lc_book {sc : List Int} {k n : Nat} {dd : List (Nat × Nat)} {sh : Nat → Nat → Nat} {g : Nat → Nat → Int} {v3 : Int} (hv : 0 ≤ v3 ∧ v3 + 6 ≤ (sc.length : Int)) (hi : ∀ j, i32 (sc.getD j 0)) (hI : Inv dd sh g) (S : S_book)
    (next : ∀ dd' sh' g', Inv dd' sh' g' → LR sc 200 k n 2023 [some (vZ 0), some (vR 1), some (vR 134), some (vI v3)] [] (St dd' sh' g')) : LR sc 200 k n 796 [some (vZ 0), some (vR 1), some (vR 134), some (vI v3)] [] (St dd sh g) := by
  refine r_law_796 (by omega) ?_
  repeat' (first
    | exact hi _
    | (refine cI_imp (S dd sh g hI _ _ (hi _) (hi _)) ?_; intro r g2 h2)
    | contradiction
    | (exact cI_imp h2 fun r2 g3 ⟨e, i, hI2⟩ => ⟨i, by rw [← e]; exact i, fun _ => next dd sh g3 hI2, fun q => absurd e q⟩)
    | omega
    | refine And.intro ?_ ?_
    | intro h)
def S_odds : Prop := ∀ (dd : List (Nat × Nat)) (sh : Nat → Nat → Nat) (g : Nat → Nat → Int), Inv dd sh g → ∀ a1 a2 a3 : Int, i32 a1 → i32 a2 → (a3 = 0 ∨ a3 = 1) → SimI m_X11_odds m_X12_odds [vI a1, vI a2, vI a3] dd sh g
theorem lc_odds {sc : List Int} {k n : Nat} {dd : List (Nat × Nat)} {sh : Nat → Nat → Nat} {g : Nat → Nat → Int} {v3 : Int} (hv : 0 ≤ v3 ∧ v3 + 6 ≤ (sc.length : Int)) (hi : ∀ j, i32 (sc.getD j 0)) (hI : Inv dd sh g) (S : S_odds)
    (next : ∀ dd' sh' g', Inv dd' sh' g' → LR sc 200 k n 2023 [some (vZ 0), some (vR 1), some (vR 134), some (vI v3)] [] (St dd' sh' g')) : LR sc 200 k n 829 [some (vZ 0), some (vR 1), some (vR 134), some (vI v3)] [] (St dd sh g) := by
  refine r_law_829 (by omega) ?_
  repeat' (first
    | exact hi _
    | (refine cI_imp (S dd sh g hI _ _ _ (hi _) (hi _) (by first | exact Or.inl rfl | exact Or.inr rfl)) ?_; intro r g2 h2)
    | contradiction
    | (exact cI_imp h2 fun r2 g3 ⟨e, i, hI2⟩ => ⟨i, by rw [← e]; exact i, fun _ => next dd sh g3 hI2, fun q => absurd e q⟩)
    | omega
    | refine And.intro ?_ ?_
    | intro h)
def S_weight : Prop := ∀ (dd : List (Nat × Nat)) (sh : Nat → Nat → Nat) (g : Nat → Nat → Int), Inv dd sh g → ∀ a1 a2 : Int, i32 a1 → i32 a2 → SimI m_X11_weight m_X12_weight [vI a1, vI a2] dd sh g
theorem lc_weight {sc : List Int} {k n : Nat} {dd : List (Nat × Nat)} {sh : Nat → Nat → Nat} {g : Nat → Nat → Int} {v3 : Int} (hv : 0 ≤ v3 ∧ v3 + 6 ≤ (sc.length : Int)) (hi : ∀ j, i32 (sc.getD j 0)) (hI : Inv dd sh g) (S : S_weight)
    (next : ∀ dd' sh' g', Inv dd' sh' g' → LR sc 200 k n 2023 [some (vZ 0), some (vR 1), some (vR 134), some (vI v3)] [] (St dd' sh' g')) : LR sc 200 k n 888 [some (vZ 0), some (vR 1), some (vR 134), some (vI v3)] [] (St dd sh g) := by
  refine r_law_888 (by omega) ?_
  repeat' (first
    | exact hi _
    | (refine cI_imp (S dd sh g hI _ _ (hi _) (hi _)) ?_; intro r g2 h2)
    | contradiction
    | (exact cI_imp h2 fun r2 g3 ⟨e, i, hI2⟩ => ⟨i, by rw [← e]; exact i, fun _ => next dd sh g3 hI2, fun q => absurd e q⟩)
    | omega
    | refine And.intro ?_ ?_
    | intro h)
def S_observe : Prop := ∀ (dd : List (Nat × Nat)) (sh : Nat → Nat → Nat) (g : Nat → Nat → Int), Inv dd sh g → ∀ a1 a2 a3 : Int, i32 a1 → i32 a2 → (a3 = 0 ∨ a3 = 1) → SimI m_X11_observe m_X12_observe [vI a1, vI a2, vI a3] dd sh g
theorem lc_observe {sc : List Int} {k n : Nat} {dd : List (Nat × Nat)} {sh : Nat → Nat → Nat} {g : Nat → Nat → Int} {v3 : Int} (hv : 0 ≤ v3 ∧ v3 + 6 ≤ (sc.length : Int)) (hi : ∀ j, i32 (sc.getD j 0)) (hI : Inv dd sh g) (S : S_observe)
    (next : ∀ dd' sh' g', Inv dd' sh' g' → LR sc 200 k n 2023 [some (vZ 0), some (vR 1), some (vR 134), some (vI v3)] [] (St dd' sh' g')) : LR sc 200 k n 921 [some (vZ 0), some (vR 1), some (vR 134), some (vI v3)] [] (St dd sh g) := by
  refine r_law_921 (by omega) ?_
  repeat' (first
    | exact hi _
    | (refine cI_imp (S dd sh g hI _ _ _ (hi _) (hi _) (by first | exact Or.inl rfl | exact Or.inr rfl)) ?_; intro r g2 h2)
    | contradiction
    | (exact cI_imp h2 fun r2 g3 ⟨e, i, hI2⟩ => ⟨i, by rw [← e]; exact i, fun _ => next dd sh g3 hI2, fun q => absurd e q⟩)
    | omega
    | refine And.intro ?_ ?_
    | intro h)
def S_share : Prop := ∀ (dd : List (Nat × Nat)) (sh : Nat → Nat → Nat) (g : Nat → Nat → Int), Inv dd sh g → ∀ a1 a2 : Int, i32 a1 → (a2 = 0 ∨ a2 = 1) → SimL m_X11_share m_X12_share [vI a1, vI a2] dd sh g
theorem lc_share {sc : List Int} {k n : Nat} {dd : List (Nat × Nat)} {sh : Nat → Nat → Nat} {g : Nat → Nat → Int} {v3 : Int} (hv : 0 ≤ v3 ∧ v3 + 6 ≤ (sc.length : Int)) (hi : ∀ j, i32 (sc.getD j 0)) (hI : Inv dd sh g) (S : S_share)
    (next : ∀ dd' sh' g', Inv dd' sh' g' → LR sc 200 k n 2023 [some (vZ 0), some (vR 1), some (vR 134), some (vI v3)] [] (St dd' sh' g')) : LR sc 200 k n 980 [some (vZ 0), some (vR 1), some (vR 134), some (vI v3)] [] (St dd sh g) := by
  refine r_law_980 (by omega) ?_
  repeat' (first
    | exact hi _
    | (refine cL_imp (S dd sh g hI _ _ (hi _) (by first | exact Or.inl rfl | exact Or.inr rfl)) ?_; intro r g2 h2)
    | contradiction
    | (exact cL_imp h2 fun r2 g3 ⟨e, i, hI2⟩ => by subst e; exact ⟨i, i, by rw [lcmp_self]; decide, fun _ => next dd sh g3 hI2, fun q => absurd (lcmp_self _) q⟩)
    | omega
    | refine And.intro ?_ ?_
    | intro h)
def S_tellsMost : Prop := ∀ (dd : List (Nat × Nat)) (sh : Nat → Nat → Nat) (g : Nat → Nat → Int), Inv dd sh g → SimI m_X11_tellsMost m_X12_tellsMost [] dd sh g
theorem lc_tellsMost {sc : List Int} {k n : Nat} {dd : List (Nat × Nat)} {sh : Nat → Nat → Nat} {g : Nat → Nat → Int} {v3 : Int} (hv : 0 ≤ v3 ∧ v3 + 6 ≤ (sc.length : Int)) (hi : ∀ j, i32 (sc.getD j 0)) (hI : Inv dd sh g) (S : S_tellsMost)
    (next : ∀ dd' sh' g', Inv dd' sh' g' → LR sc 200 k n 2023 [some (vZ 0), some (vR 1), some (vR 134), some (vI v3)] [] (St dd' sh' g')) : LR sc 200 k n 1030 [some (vZ 0), some (vR 1), some (vR 134), some (vI v3)] [] (St dd sh g) := by
  refine r_law_1030 (by omega) ?_
  repeat' (first
    | exact hi _
    | (refine cI_imp (S dd sh g hI) ?_; intro r g2 h2)
    | contradiction
    | (exact cI_imp h2 fun r2 g3 ⟨e, i, hI2⟩ => ⟨i, by rw [← e]; exact i, fun _ => next dd sh g3 hI2, fun q => absurd e q⟩)
    | omega
    | refine And.intro ?_ ?_
    | intro h)
def S_guess : Prop := ∀ (dd : List (Nat × Nat)) (sh : Nat → Nat → Nat) (g : Nat → Nat → Int), Inv dd sh g → SimI m_X11_guess m_X12_guess [] dd sh g
theorem lc_guess {sc : List Int} {k n : Nat} {dd : List (Nat × Nat)} {sh : Nat → Nat → Nat} {g : Nat → Nat → Int} {v3 : Int} (hv : 0 ≤ v3 ∧ v3 + 6 ≤ (sc.length : Int)) (hi : ∀ j, i32 (sc.getD j 0)) (hI : Inv dd sh g) (S : S_guess)
    (next : ∀ dd' sh' g', Inv dd' sh' g' → LR sc 200 k n 2023 [some (vZ 0), some (vR 1), some (vR 134), some (vI v3)] [] (St dd' sh' g')) : LR sc 200 k n 1043 [some (vZ 0), some (vR 1), some (vR 134), some (vI v3)] [] (St dd sh g) := by
  refine r_law_1043 (by omega) ?_
  repeat' (first
    | exact hi _
    | (refine cI_imp (S dd sh g hI) ?_; intro r g2 h2)
    | contradiction
    | (exact cI_imp h2 fun r2 g3 ⟨e, i, hI2⟩ => ⟨i, by rw [← e]; exact i, fun _ => next dd sh g3 hI2, fun q => absurd e q⟩)
    | omega
    | refine And.intro ?_ ?_
    | intro h)
def S_both : Prop := ∀ (dd : List (Nat × Nat)) (sh : Nat → Nat → Nat) (g : Nat → Nat → Int), Inv dd sh g → ∀ a1 a2 a3 : Int, i32 a1 → i32 a2 → (a3 = 0 ∨ a3 = 1) → SimL m_X11_both m_X12_both [vI a1, vI a2, vI a3] dd sh g
theorem lc_both {sc : List Int} {k n : Nat} {dd : List (Nat × Nat)} {sh : Nat → Nat → Nat} {g : Nat → Nat → Int} {v3 : Int} (hv : 0 ≤ v3 ∧ v3 + 6 ≤ (sc.length : Int)) (hi : ∀ j, i32 (sc.getD j 0)) (hI : Inv dd sh g) (S : S_both)
    (next : ∀ dd' sh' g', Inv dd' sh' g' → LR sc 200 k n 2023 [some (vZ 0), some (vR 1), some (vR 134), some (vI v3)] [] (St dd' sh' g')) : LR sc 200 k n 1056 [some (vZ 0), some (vR 1), some (vR 134), some (vI v3)] [] (St dd sh g) := by
  refine r_law_1056 (by omega) ?_
  repeat' (first
    | exact hi _
    | (refine cL_imp (S dd sh g hI _ _ _ (hi _) (hi _) (by first | exact Or.inl rfl | exact Or.inr rfl)) ?_; intro r g2 h2)
    | contradiction
    | (exact cL_imp h2 fun r2 g3 ⟨e, i, hI2⟩ => by subst e; exact ⟨i, i, by rw [lcmp_self]; decide, fun _ => next dd sh g3 hI2, fun q => absurd (lcmp_self _) q⟩)
    | omega
    | refine And.intro ?_ ?_
    | intro h)
def S_foretold : Prop := ∀ (dd : List (Nat × Nat)) (sh : Nat → Nat → Nat) (g : Nat → Nat → Int), Inv dd sh g → ∀ a1 a2 : Int, i32 a1 → i32 a2 → SimI m_X11_foretold m_X12_foretold [vI a1, vI a2] dd sh g
theorem lc_foretold {sc : List Int} {k n : Nat} {dd : List (Nat × Nat)} {sh : Nat → Nat → Nat} {g : Nat → Nat → Int} {v3 : Int} (hv : 0 ≤ v3 ∧ v3 + 6 ≤ (sc.length : Int)) (hi : ∀ j, i32 (sc.getD j 0)) (hI : Inv dd sh g) (S : S_foretold)
    (next : ∀ dd' sh' g', Inv dd' sh' g' → LR sc 200 k n 2023 [some (vZ 0), some (vR 1), some (vR 134), some (vI v3)] [] (St dd' sh' g')) : LR sc 200 k n 1116 [some (vZ 0), some (vR 1), some (vR 134), some (vI v3)] [] (St dd sh g) := by
  refine r_law_1116 (by omega) ?_
  repeat' (first
    | exact hi _
    | (refine cI_imp (S dd sh g hI _ _ (hi _) (hi _)) ?_; intro r g2 h2)
    | contradiction
    | (exact cI_imp h2 fun r2 g3 ⟨e, i, hI2⟩ => ⟨i, by rw [← e]; exact i, fun _ => next dd sh g3 hI2, fun q => absurd e q⟩)
    | omega
    | refine And.intro ?_ ?_
    | intro h)
def S_habit : Prop := ∀ (dd : List (Nat × Nat)) (sh : Nat → Nat → Nat) (g : Nat → Nat → Int), Inv dd sh g → ∀ a1 a2 : Int, i32 a1 → i32 a2 → SimI m_X11_habit m_X12_habit [vI a1, vI a2] dd sh g
theorem lc_habit {sc : List Int} {k n : Nat} {dd : List (Nat × Nat)} {sh : Nat → Nat → Nat} {g : Nat → Nat → Int} {v3 : Int} (hv : 0 ≤ v3 ∧ v3 + 6 ≤ (sc.length : Int)) (hi : ∀ j, i32 (sc.getD j 0)) (hI : Inv dd sh g) (S : S_habit)
    (next : ∀ dd' sh' g', Inv dd' sh' g' → LR sc 200 k n 2023 [some (vZ 0), some (vR 1), some (vR 134), some (vI v3)] [] (St dd' sh' g')) : LR sc 200 k n 1149 [some (vZ 0), some (vR 1), some (vR 134), some (vI v3)] [] (St dd sh g) := by
  refine r_law_1149 (by omega) ?_
  repeat' (first
    | exact hi _
    | (refine cI_imp (S dd sh g hI _ _ (hi _) (hi _)) ?_; intro r g2 h2)
    | contradiction
    | (exact cI_imp h2 fun r2 g3 ⟨e, i, hI2⟩ => ⟨i, by rw [← e]; exact i, fun _ => next dd sh g3 hI2, fun q => absurd e q⟩)
    | omega
    | refine And.intro ?_ ?_
    | intro h)
def S_firstSign : Prop := ∀ (dd : List (Nat × Nat)) (sh : Nat → Nat → Nat) (g : Nat → Nat → Int), Inv dd sh g → ∀ a1 : Int, i32 a1 → SimI m_X11_firstSign m_X12_firstSign [vI a1] dd sh g
theorem lc_firstSign {sc : List Int} {k n : Nat} {dd : List (Nat × Nat)} {sh : Nat → Nat → Nat} {g : Nat → Nat → Int} {v3 : Int} (hv : 0 ≤ v3 ∧ v3 + 6 ≤ (sc.length : Int)) (hi : ∀ j, i32 (sc.getD j 0)) (hI : Inv dd sh g) (S : S_firstSign)
    (next : ∀ dd' sh' g', Inv dd' sh' g' → LR sc 200 k n 2023 [some (vZ 0), some (vR 1), some (vR 134), some (vI v3)] [] (St dd' sh' g')) : LR sc 200 k n 1182 [some (vZ 0), some (vR 1), some (vR 134), some (vI v3)] [] (St dd sh g) := by
  refine r_law_1182 (by omega) ?_
  repeat' (first
    | exact hi _
    | (refine cI_imp (S dd sh g hI _ (hi _)) ?_; intro r g2 h2)
    | contradiction
    | (exact cI_imp h2 fun r2 g3 ⟨e, i, hI2⟩ => ⟨i, by rw [← e]; exact i, fun _ => next dd sh g3 hI2, fun q => absurd e q⟩)
    | omega
    | refine And.intro ?_ ?_
    | intro h)
def S_order : Prop := ∀ (dd : List (Nat × Nat)) (sh : Nat → Nat → Nat) (g : Nat → Nat → Int), Inv dd sh g → ∀ a1 a2 a3 : Int, i32 a1 → i32 a2 → i32 a3 → SimI m_X11_order m_X12_order [vI a1, vI a2, vI a3] dd sh g
theorem lc_order {sc : List Int} {k n : Nat} {dd : List (Nat × Nat)} {sh : Nat → Nat → Nat} {g : Nat → Nat → Int} {v3 : Int} (hv : 0 ≤ v3 ∧ v3 + 6 ≤ (sc.length : Int)) (hi : ∀ j, i32 (sc.getD j 0)) (hI : Inv dd sh g) (S : S_order)
    (next : ∀ dd' sh' g', Inv dd' sh' g' → LR sc 200 k n 2023 [some (vZ 0), some (vR 1), some (vR 134), some (vI v3)] [] (St dd' sh' g')) : LR sc 200 k n 1205 [some (vZ 0), some (vR 1), some (vR 134), some (vI v3)] [] (St dd sh g) := by
  refine r_law_1205 (by omega) ?_
  repeat' (first
    | exact hi _
    | (refine cI_imp (S dd sh g hI _ _ _ (hi _) (hi _) (hi _)) ?_; intro r g2 h2)
    | contradiction
    | (exact cI_imp h2 fun r2 g3 ⟨e, i, hI2⟩ => ⟨i, by rw [← e]; exact i, fun _ => next dd sh g3 hI2, fun q => absurd e q⟩)
    | omega
    | refine And.intro ?_ ?_
    | intro h)
def S_unseen : Prop := ∀ (dd : List (Nat × Nat)) (sh : Nat → Nat → Nat) (g : Nat → Nat → Int), Inv dd sh g → ∀ a1 a2 : Int, i32 a1 → (a2 = 0 ∨ a2 = 1) → SimL m_X11_unseen m_X12_unseen [vI a1, vI a2] dd sh g
theorem lc_unseen {sc : List Int} {k n : Nat} {dd : List (Nat × Nat)} {sh : Nat → Nat → Nat} {g : Nat → Nat → Int} {v3 : Int} (hv : 0 ≤ v3 ∧ v3 + 6 ≤ (sc.length : Int)) (hi : ∀ j, i32 (sc.getD j 0)) (hI : Inv dd sh g) (S : S_unseen)
    (next : ∀ dd' sh' g', Inv dd' sh' g' → LR sc 200 k n 2023 [some (vZ 0), some (vR 1), some (vR 134), some (vI v3)] [] (St dd' sh' g')) : LR sc 200 k n 1248 [some (vZ 0), some (vR 1), some (vR 134), some (vI v3)] [] (St dd sh g) := by
  refine r_law_1248 (by omega) ?_
  repeat' (first
    | exact hi _
    | (refine cL_imp (S dd sh g hI _ _ (hi _) (by first | exact Or.inl rfl | exact Or.inr rfl)) ?_; intro r g2 h2)
    | contradiction
    | (exact cL_imp h2 fun r2 g3 ⟨e, i, hI2⟩ => by subst e; exact ⟨i, i, by rw [lcmp_self]; decide, fun _ => next dd sh g3 hI2, fun q => absurd (lcmp_self _) q⟩)
    | omega
    | refine And.intro ?_ ?_
    | intro h)
def S_risk : Prop := ∀ (dd : List (Nat × Nat)) (sh : Nat → Nat → Nat) (g : Nat → Nat → Int), Inv dd sh g → ∀ a1 a2 : Int, i32 a1 → i32 a2 → SimI m_X11_risk m_X12_risk [vI a1, vI a2] dd sh g
theorem lc_risk {sc : List Int} {k n : Nat} {dd : List (Nat × Nat)} {sh : Nat → Nat → Nat} {g : Nat → Nat → Int} {v3 : Int} (hv : 0 ≤ v3 ∧ v3 + 6 ≤ (sc.length : Int)) (hi : ∀ j, i32 (sc.getD j 0)) (hI : Inv dd sh g) (S : S_risk)
    (next : ∀ dd' sh' g', Inv dd' sh' g' → LR sc 200 k n 2023 [some (vZ 0), some (vR 1), some (vR 134), some (vI v3)] [] (St dd' sh' g')) : LR sc 200 k n 1298 [some (vZ 0), some (vR 1), some (vR 134), some (vI v3)] [] (St dd sh g) := by
  refine r_law_1298 (by omega) ?_
  repeat' (first
    | exact hi _
    | (refine cI_imp (S dd sh g hI _ _ (hi _) (hi _)) ?_; intro r g2 h2)
    | contradiction
    | (exact cI_imp h2 fun r2 g3 ⟨e, i, hI2⟩ => ⟨i, by rw [← e]; exact i, fun _ => next dd sh g3 hI2, fun q => absurd e q⟩)
    | omega
    | refine And.intro ?_ ?_
    | intro h)
def S_staysAway : Prop := ∀ (dd : List (Nat × Nat)) (sh : Nat → Nat → Nat) (g : Nat → Nat → Int), Inv dd sh g → ∀ a1 a2 a3 a4 : Int, i32 a1 → i32 a2 → i32 a3 → i32 a4 → SimL m_X11_staysAway m_X12_staysAway [vI a1, vI a2, vI a3, vI a4] dd sh g
theorem lc_staysAway {sc : List Int} {k n : Nat} {dd : List (Nat × Nat)} {sh : Nat → Nat → Nat} {g : Nat → Nat → Int} {v3 : Int} (hv : 0 ≤ v3 ∧ v3 + 6 ≤ (sc.length : Int)) (hi : ∀ j, i32 (sc.getD j 0)) (hI : Inv dd sh g) (S : S_staysAway)
    (next : ∀ dd' sh' g', Inv dd' sh' g' → LR sc 200 k n 2023 [some (vZ 0), some (vR 1), some (vR 134), some (vI v3)] [] (St dd' sh' g')) : LR sc 200 k n 1331 [some (vZ 0), some (vR 1), some (vR 134), some (vI v3)] [] (St dd sh g) := by
  refine r_law_1331 (by omega) ?_
  repeat' (first
    | exact hi _
    | (refine cL_imp (S dd sh g hI _ _ _ _ (hi _) (hi _) (hi _) (hi _)) ?_; intro r g2 h2)
    | contradiction
    | (exact cL_imp h2 fun r2 g3 ⟨e, i, hI2⟩ => by subst e; exact ⟨i, i, by rw [lcmp_self]; decide, fun _ => next dd sh g3 hI2, fun q => absurd (lcmp_self _) q⟩)
    | omega
    | refine And.intro ?_ ?_
    | intro h)
def S_toRun : Prop := ∀ (dd : List (Nat × Nat)) (sh : Nat → Nat → Nat) (g : Nat → Nat → Int), Inv dd sh g → ∀ a1 a2 a3 a4 a5 : Int, i32 a1 → i32 a2 → i32 a3 → i32 a4 → i32 a5 → SimL m_X11_toRun m_X12_toRun [vI a1, vI a2, vI a3, vI a4, vI a5] dd sh g
theorem lc_toRun {sc : List Int} {k n : Nat} {dd : List (Nat × Nat)} {sh : Nat → Nat → Nat} {g : Nat → Nat → Int} {v3 : Int} (hv : 0 ≤ v3 ∧ v3 + 6 ≤ (sc.length : Int)) (hi : ∀ j, i32 (sc.getD j 0)) (hI : Inv dd sh g) (S : S_toRun)
    (next : ∀ dd' sh' g', Inv dd' sh' g' → LR sc 200 k n 2023 [some (vZ 0), some (vR 1), some (vR 134), some (vI v3)] [] (St dd' sh' g')) : LR sc 200 k n 1385 [some (vZ 0), some (vR 1), some (vR 134), some (vI v3)] [] (St dd sh g) := by
  refine r_law_1385 (by omega) ?_
  repeat' (first
    | exact hi _
    | (refine cL_imp (S dd sh g hI _ _ _ _ _ (hi _) (hi _) (hi _) (hi _) (hi _)) ?_; intro r g2 h2)
    | contradiction
    | (exact cL_imp h2 fun r2 g3 ⟨e, i, hI2⟩ => by subst e; exact ⟨i, i, by rw [lcmp_self]; decide, fun _ => next dd sh g3 hI2, fun q => absurd (lcmp_self _) q⟩)
    | omega
    | refine And.intro ?_ ?_
    | intro h)
def S_cuts : Prop := ∀ (dd : List (Nat × Nat)) (sh : Nat → Nat → Nat) (g : Nat → Nat → Int), Inv dd sh g → ∀ a1 : Int, i32 a1 → SimI m_X11_cuts m_X12_cuts [vI a1] dd sh g
theorem lc_cuts {sc : List Int} {k n : Nat} {dd : List (Nat × Nat)} {sh : Nat → Nat → Nat} {g : Nat → Nat → Int} {v3 : Int} (hv : 0 ≤ v3 ∧ v3 + 6 ≤ (sc.length : Int)) (hi : ∀ j, i32 (sc.getD j 0)) (hI : Inv dd sh g) (S : S_cuts)
    (next : ∀ dd' sh' g', Inv dd' sh' g' → LR sc 200 k n 2023 [some (vZ 0), some (vR 1), some (vR 134), some (vI v3)] [] (St dd' sh' g')) : LR sc 200 k n 1449 [some (vZ 0), some (vR 1), some (vR 134), some (vI v3)] [] (St dd sh g) := by
  refine r_law_1449 (by omega) ?_
  repeat' (first
    | exact hi _
    | (refine cI_imp (S dd sh g hI _ (hi _)) ?_; intro r g2 h2)
    | contradiction
    | (exact cI_imp h2 fun r2 g3 ⟨e, i, hI2⟩ => ⟨i, by rw [← e]; exact i, fun _ => next dd sh g3 hI2, fun q => absurd e q⟩)
    | omega
    | refine And.intro ?_ ?_
    | intro h)
def S_lasts : Prop := ∀ (dd : List (Nat × Nat)) (sh : Nat → Nat → Nat) (g : Nat → Nat → Int), Inv dd sh g → SimI m_X11_lasts m_X12_lasts [] dd sh g
theorem lc_lasts {sc : List Int} {k n : Nat} {dd : List (Nat × Nat)} {sh : Nat → Nat → Nat} {g : Nat → Nat → Int} {v3 : Int} (hv : 0 ≤ v3 ∧ v3 + 6 ≤ (sc.length : Int)) (hi : ∀ j, i32 (sc.getD j 0)) (hI : Inv dd sh g) (S : S_lasts)
    (next : ∀ dd' sh' g', Inv dd' sh' g' → LR sc 200 k n 2023 [some (vZ 0), some (vR 1), some (vR 134), some (vI v3)] [] (St dd' sh' g')) : LR sc 200 k n 1472 [some (vZ 0), some (vR 1), some (vR 134), some (vI v3)] [] (St dd sh g) := by
  refine r_law_1472 (by omega) ?_
  repeat' (first
    | exact hi _
    | (refine cI_imp (S dd sh g hI) ?_; intro r g2 h2)
    | contradiction
    | (exact cI_imp h2 fun r2 g3 ⟨e, i, hI2⟩ => ⟨i, by rw [← e]; exact i, fun _ => next dd sh g3 hI2, fun q => absurd e q⟩)
    | omega
    | refine And.intro ?_ ?_
    | intro h)
def S_ahead : Prop := ∀ (dd : List (Nat × Nat)) (sh : Nat → Nat → Nat) (g : Nat → Nat → Int), Inv dd sh g → ∀ a1 a2 : Int, i32 a1 → i32 a2 → SimI m_X11_ahead m_X12_ahead [vI a1, vI a2] dd sh g
theorem lc_ahead {sc : List Int} {k n : Nat} {dd : List (Nat × Nat)} {sh : Nat → Nat → Nat} {g : Nat → Nat → Int} {v3 : Int} (hv : 0 ≤ v3 ∧ v3 + 6 ≤ (sc.length : Int)) (hi : ∀ j, i32 (sc.getD j 0)) (hI : Inv dd sh g) (S : S_ahead)
    (next : ∀ dd' sh' g', Inv dd' sh' g' → LR sc 200 k n 2023 [some (vZ 0), some (vR 1), some (vR 134), some (vI v3)] [] (St dd' sh' g')) : LR sc 200 k n 1485 [some (vZ 0), some (vR 1), some (vR 134), some (vI v3)] [] (St dd sh g) := by
  refine r_law_1485 (by omega) ?_
  repeat' (first
    | exact hi _
    | (refine cI_imp (S dd sh g hI _ _ (hi _) (hi _)) ?_; intro r g2 h2)
    | contradiction
    | (exact cI_imp h2 fun r2 g3 ⟨e, i, hI2⟩ => ⟨i, by rw [← e]; exact i, fun _ => next dd sh g3 hI2, fun q => absurd e q⟩)
    | omega
    | refine And.intro ?_ ?_
    | intro h)
def S_orders : Prop := ∀ (dd : List (Nat × Nat)) (sh : Nat → Nat → Nat) (g : Nat → Nat → Int), Inv dd sh g → SimI m_X11_orders m_X12_orders [] dd sh g
theorem lc_orders {sc : List Int} {k n : Nat} {dd : List (Nat × Nat)} {sh : Nat → Nat → Nat} {g : Nat → Nat → Int} {v3 : Int} (hv : 0 ≤ v3 ∧ v3 + 6 ≤ (sc.length : Int)) (hi : ∀ j, i32 (sc.getD j 0)) (hI : Inv dd sh g) (S : S_orders)
    (next : ∀ dd' sh' g', Inv dd' sh' g' → LR sc 200 k n 2023 [some (vZ 0), some (vR 1), some (vR 134), some (vI v3)] [] (St dd' sh' g')) : LR sc 200 k n 1518 [some (vZ 0), some (vR 1), some (vR 134), some (vI v3)] [] (St dd sh g) := by
  refine r_law_1518 (by omega) ?_
  repeat' (first
    | exact hi _
    | (refine cI_imp (S dd sh g hI) ?_; intro r g2 h2)
    | contradiction
    | (exact cI_imp h2 fun r2 g3 ⟨e, i, hI2⟩ => ⟨i, by rw [← e]; exact i, fun _ => next dd sh g3 hI2, fun q => absurd e q⟩)
    | omega
    | refine And.intro ?_ ?_
    | intro h)
def S_facing : Prop := ∀ (dd : List (Nat × Nat)) (sh : Nat → Nat → Nat) (g : Nat → Nat → Int), Inv dd sh g → SimI m_X11_facing m_X12_facing [] dd sh g
theorem lc_facing {sc : List Int} {k n : Nat} {dd : List (Nat × Nat)} {sh : Nat → Nat → Nat} {g : Nat → Nat → Int} {v3 : Int} (hv : 0 ≤ v3 ∧ v3 + 6 ≤ (sc.length : Int)) (hi : ∀ j, i32 (sc.getD j 0)) (hI : Inv dd sh g) (S : S_facing)
    (next : ∀ dd' sh' g', Inv dd' sh' g' → LR sc 200 k n 2023 [some (vZ 0), some (vR 1), some (vR 134), some (vI v3)] [] (St dd' sh' g')) : LR sc 200 k n 1531 [some (vZ 0), some (vR 1), some (vR 134), some (vI v3)] [] (St dd sh g) := by
  refine r_law_1531 (by omega) ?_
  repeat' (first
    | exact hi _
    | (refine cI_imp (S dd sh g hI) ?_; intro r g2 h2)
    | contradiction
    | (exact cI_imp h2 fun r2 g3 ⟨e, i, hI2⟩ => ⟨i, by rw [← e]; exact i, fun _ => next dd sh g3 hI2, fun q => absurd e q⟩)
    | omega
    | refine And.intro ?_ ?_
    | intro h)
def S_seating : Prop := ∀ (dd : List (Nat × Nat)) (sh : Nat → Nat → Nat) (g : Nat → Nat → Int), Inv dd sh g → ∀ a1 a2 : Int, i32 a1 → i32 a2 → SimI m_X11_seating m_X12_seating [vI a1, vI a2] dd sh g
theorem lc_seating {sc : List Int} {k n : Nat} {dd : List (Nat × Nat)} {sh : Nat → Nat → Nat} {g : Nat → Nat → Int} {v3 : Int} (hv : 0 ≤ v3 ∧ v3 + 6 ≤ (sc.length : Int)) (hi : ∀ j, i32 (sc.getD j 0)) (hI : Inv dd sh g) (S : S_seating)
    (next : ∀ dd' sh' g', Inv dd' sh' g' → LR sc 200 k n 2023 [some (vZ 0), some (vR 1), some (vR 134), some (vI v3)] [] (St dd' sh' g')) : LR sc 200 k n 1544 [some (vZ 0), some (vR 1), some (vR 134), some (vI v3)] [] (St dd sh g) := by
  refine r_law_1544 (by omega) ?_
  repeat' (first
    | exact hi _
    | (refine cI_imp (S dd sh g hI _ _ (hi _) (hi _)) ?_; intro r g2 h2)
    | contradiction
    | (exact cI_imp h2 fun r2 g3 ⟨e, i, hI2⟩ => ⟨i, by rw [← e]; exact i, fun _ => next dd sh g3 hI2, fun q => absurd e q⟩)
    | omega
    | refine And.intro ?_ ?_
    | intro h)
def S_lonely : Prop := ∀ (dd : List (Nat × Nat)) (sh : Nat → Nat → Nat) (g : Nat → Nat → Int), Inv dd sh g → SimI m_X11_lonely m_X12_lonely [] dd sh g
theorem lc_lonely {sc : List Int} {k n : Nat} {dd : List (Nat × Nat)} {sh : Nat → Nat → Nat} {g : Nat → Nat → Int} {v3 : Int} (hv : 0 ≤ v3 ∧ v3 + 6 ≤ (sc.length : Int)) (hi : ∀ j, i32 (sc.getD j 0)) (hI : Inv dd sh g) (S : S_lonely)
    (next : ∀ dd' sh' g', Inv dd' sh' g' → LR sc 200 k n 2023 [some (vZ 0), some (vR 1), some (vR 134), some (vI v3)] [] (St dd' sh' g')) : LR sc 200 k n 1577 [some (vZ 0), some (vR 1), some (vR 134), some (vI v3)] [] (St dd sh g) := by
  refine r_law_1577 (by omega) ?_
  repeat' (first
    | exact hi _
    | (refine cI_imp (S dd sh g hI) ?_; intro r g2 h2)
    | contradiction
    | (exact cI_imp h2 fun r2 g3 ⟨e, i, hI2⟩ => ⟨i, by rw [← e]; exact i, fun _ => next dd sh g3 hI2, fun q => absurd e q⟩)
    | omega
    | refine And.intro ?_ ?_
    | intro h)
def S_bestSeat : Prop := ∀ (dd : List (Nat × Nat)) (sh : Nat → Nat → Nat) (g : Nat → Nat → Int), Inv dd sh g → ∀ a1 a2 : Int, i32 a1 → (a2 = 0 ∨ a2 = 1) → SimI m_X11_bestSeat m_X12_bestSeat [vI a1, vI a2] dd sh g
theorem lc_bestSeat {sc : List Int} {k n : Nat} {dd : List (Nat × Nat)} {sh : Nat → Nat → Nat} {g : Nat → Nat → Int} {v3 : Int} (hv : 0 ≤ v3 ∧ v3 + 6 ≤ (sc.length : Int)) (hi : ∀ j, i32 (sc.getD j 0)) (hI : Inv dd sh g) (S : S_bestSeat)
    (next : ∀ dd' sh' g', Inv dd' sh' g' → LR sc 200 k n 2023 [some (vZ 0), some (vR 1), some (vR 134), some (vI v3)] [] (St dd' sh' g')) : LR sc 200 k n 1590 [some (vZ 0), some (vR 1), some (vR 134), some (vI v3)] [] (St dd sh g) := by
  refine r_law_1590 (by omega) ?_
  repeat' (first
    | exact hi _
    | (refine cI_imp (S dd sh g hI _ _ (hi _) (by first | exact Or.inl rfl | exact Or.inr rfl)) ?_; intro r g2 h2)
    | contradiction
    | (exact cI_imp h2 fun r2 g3 ⟨e, i, hI2⟩ => ⟨i, by rw [← e]; exact i, fun _ => next dd sh g3 hI2, fun q => absurd e q⟩)
    | omega
    | refine And.intro ?_ ?_
    | intro h)
def S_worth : Prop := ∀ (dd : List (Nat × Nat)) (sh : Nat → Nat → Nat) (g : Nat → Nat → Int), Inv dd sh g → SimI m_X11_worth m_X12_worth [] dd sh g
theorem lc_worth {sc : List Int} {k n : Nat} {dd : List (Nat × Nat)} {sh : Nat → Nat → Nat} {g : Nat → Nat → Int} {v3 : Int} (hv : 0 ≤ v3 ∧ v3 + 6 ≤ (sc.length : Int)) (hi : ∀ j, i32 (sc.getD j 0)) (hI : Inv dd sh g) (S : S_worth)
    (next : ∀ dd' sh' g', Inv dd' sh' g' → LR sc 200 k n 2023 [some (vZ 0), some (vR 1), some (vR 134), some (vI v3)] [] (St dd' sh' g')) : LR sc 200 k n 1639 [some (vZ 0), some (vR 1), some (vR 134), some (vI v3)] [] (St dd sh g) := by
  refine r_law_1639 (by omega) ?_
  repeat' (first
    | exact hi _
    | (refine cI_imp (S dd sh g hI) ?_; intro r g2 h2)
    | contradiction
    | (exact cI_imp h2 fun r2 g3 ⟨e, i, hI2⟩ => ⟨i, by rw [← e]; exact i, fun _ => next dd sh g3 hI2, fun q => absurd e q⟩)
    | omega
    | refine And.intro ?_ ?_
    | intro h)
def S_torn : Prop := ∀ (dd : List (Nat × Nat)) (sh : Nat → Nat → Nat) (g : Nat → Nat → Int), Inv dd sh g → ∀ a1 a2 a3 : Int, i32 a1 → i32 a2 → (a3 = 0 ∨ a3 = 1) → SimI m_X11_torn m_X12_torn [vI a1, vI a2, vI a3] dd sh g
theorem lc_torn {sc : List Int} {k n : Nat} {dd : List (Nat × Nat)} {sh : Nat → Nat → Nat} {g : Nat → Nat → Int} {v3 : Int} (hv : 0 ≤ v3 ∧ v3 + 6 ≤ (sc.length : Int)) (hi : ∀ j, i32 (sc.getD j 0)) (hI : Inv dd sh g) (S : S_torn)
    (next : ∀ dd' sh' g', Inv dd' sh' g' → LR sc 200 k n 2023 [some (vZ 0), some (vR 1), some (vR 134), some (vI v3)] [] (St dd' sh' g')) : LR sc 200 k n 1652 [some (vZ 0), some (vR 1), some (vR 134), some (vI v3)] [] (St dd sh g) := by
  refine r_law_1652 (by omega) ?_
  repeat' (first
    | exact hi _
    | (refine cI_imp (S dd sh g hI _ _ _ (hi _) (hi _) (by first | exact Or.inl rfl | exact Or.inr rfl)) ?_; intro r g2 h2)
    | contradiction
    | (exact cI_imp h2 fun r2 g3 ⟨e, i, hI2⟩ => ⟨i, by rw [← e]; exact i, fun _ => next dd sh g3 hI2, fun q => absurd e q⟩)
    | omega
    | refine And.intro ?_ ?_
    | intro h)
def S_sittings : Prop := ∀ (dd : List (Nat × Nat)) (sh : Nat → Nat → Nat) (g : Nat → Nat → Int), Inv dd sh g → ∀ a1 : Int, (a1 = 0 ∨ a1 = 1) → SimI m_X11_sittings m_X12_sittings [vI a1] dd sh g
theorem lc_sittings {sc : List Int} {k n : Nat} {dd : List (Nat × Nat)} {sh : Nat → Nat → Nat} {g : Nat → Nat → Int} {v3 : Int} (hv : 0 ≤ v3 ∧ v3 + 6 ≤ (sc.length : Int)) (hi : ∀ j, i32 (sc.getD j 0)) (hI : Inv dd sh g) (S : S_sittings)
    (next : ∀ dd' sh' g', Inv dd' sh' g' → LR sc 200 k n 2023 [some (vZ 0), some (vR 1), some (vR 134), some (vI v3)] [] (St dd' sh' g')) : LR sc 200 k n 1711 [some (vZ 0), some (vR 1), some (vR 134), some (vI v3)] [] (St dd sh g) := by
  refine r_law_1711 (by omega) ?_
  repeat' (first
    | exact hi _
    | (refine cI_imp (S dd sh g hI _ (by first | exact Or.inl rfl | exact Or.inr rfl)) ?_; intro r g2 h2)
    | contradiction
    | (exact cI_imp h2 fun r2 g3 ⟨e, i, hI2⟩ => ⟨i, by rw [← e]; exact i, fun _ => next dd sh g3 hI2, fun q => absurd e q⟩)
    | omega
    | refine And.intro ?_ ?_
    | intro h)
def S_claque : Prop := ∀ (dd : List (Nat × Nat)) (sh : Nat → Nat → Nat) (g : Nat → Nat → Int), Inv dd sh g → ∀ a1 a2 a3 : Int, i32 a1 → i32 a2 → (a3 = 0 ∨ a3 = 1) → SimL m_X11_claque m_X12_claque [vI a1, vI a2, vI a3] dd sh g
theorem lc_claque {sc : List Int} {k n : Nat} {dd : List (Nat × Nat)} {sh : Nat → Nat → Nat} {g : Nat → Nat → Int} {v3 : Int} (hv : 0 ≤ v3 ∧ v3 + 6 ≤ (sc.length : Int)) (hi : ∀ j, i32 (sc.getD j 0)) (hI : Inv dd sh g) (S : S_claque)
    (next : ∀ dd' sh' g', Inv dd' sh' g' → LR sc 200 k n 2023 [some (vZ 0), some (vR 1), some (vR 134), some (vI v3)] [] (St dd' sh' g')) : LR sc 200 k n 1750 [some (vZ 0), some (vR 1), some (vR 134), some (vI v3)] [] (St dd sh g) := by
  refine r_law_1750 (by omega) ?_
  repeat' (first
    | exact hi _
    | (refine cL_imp (S dd sh g hI _ _ _ (hi _) (hi _) (by first | exact Or.inl rfl | exact Or.inr rfl)) ?_; intro r g2 h2)
    | contradiction
    | (exact cL_imp h2 fun r2 g3 ⟨e, i, hI2⟩ => by subst e; exact ⟨i, i, by rw [lcmp_self]; decide, fun _ => next dd sh g3 hI2, fun q => absurd (lcmp_self _) q⟩)
    | omega
    | refine And.intro ?_ ?_
    | intro h)
def S_sign : Prop := ∀ (dd : List (Nat × Nat)) (sh : Nat → Nat → Nat) (g : Nat → Nat → Int), Inv dd sh g → ∀ a1 a2 a3 : Int, i32 a1 → i32 a2 → i32 a3 → SimI m_X11_sign m_X12_sign [vI a1, vI a2, vI a3] dd sh g
theorem lc_sign {sc : List Int} {k n : Nat} {dd : List (Nat × Nat)} {sh : Nat → Nat → Nat} {g : Nat → Nat → Int} {v3 : Int} (hv : 0 ≤ v3 ∧ v3 + 6 ≤ (sc.length : Int)) (hi : ∀ j, i32 (sc.getD j 0)) (hI : Inv dd sh g) (S : S_sign)
    (next : ∀ dd' sh' g', Inv dd' sh' g' → LR sc 200 k n 2023 [some (vZ 0), some (vR 1), some (vR 134), some (vI v3)] [] (St dd' sh' g')) : LR sc 200 k n 1810 [some (vZ 0), some (vR 1), some (vR 134), some (vI v3)] [] (St dd sh g) := by
  refine r_law_1810 (by omega) ?_
  repeat' (first
    | exact hi _
    | (refine cI_imp (S dd sh g hI _ _ _ (hi _) (hi _) (hi _)) ?_; intro r g2 h2)
    | contradiction
    | (exact cI_imp h2 fun r2 g3 ⟨e, i, hI2⟩ => ⟨i, by rw [← e]; exact i, fun _ => next dd sh g3 hI2, fun q => absurd e q⟩)
    | omega
    | refine And.intro ?_ ?_
    | intro h)
def S_whose : Prop := ∀ (dd : List (Nat × Nat)) (sh : Nat → Nat → Nat) (g : Nat → Nat → Int), Inv dd sh g → SimI m_X11_whose m_X12_whose [] dd sh g
theorem lc_whose {sc : List Int} {k n : Nat} {dd : List (Nat × Nat)} {sh : Nat → Nat → Nat} {g : Nat → Nat → Int} {v3 : Int} (hv : 0 ≤ v3 ∧ v3 + 6 ≤ (sc.length : Int)) (hi : ∀ j, i32 (sc.getD j 0)) (hI : Inv dd sh g) (S : S_whose)
    (next : ∀ dd' sh' g', Inv dd' sh' g' → LR sc 200 k n 2023 [some (vZ 0), some (vR 1), some (vR 134), some (vI v3)] [] (St dd' sh' g')) : LR sc 200 k n 1853 [some (vZ 0), some (vR 1), some (vR 134), some (vI v3)] [] (St dd sh g) := by
  refine r_law_1853 (by omega) ?_
  repeat' (first
    | exact hi _
    | (refine cI_imp (S dd sh g hI) ?_; intro r g2 h2)
    | contradiction
    | (exact cI_imp h2 fun r2 g3 ⟨e, i, hI2⟩ => ⟨i, by rw [← e]; exact i, fun _ => next dd sh g3 hI2, fun q => absurd e q⟩)
    | omega
    | refine And.intro ?_ ?_
    | intro h)
def S_signs : Prop := ∀ (dd : List (Nat × Nat)) (sh : Nat → Nat → Nat) (g : Nat → Nat → Int), Inv dd sh g → ∀ a1 a2 : Int, i32 a1 → i32 a2 → SimI m_X11_signs m_X12_signs [vI a1, vI a2] dd sh g
theorem lc_signs {sc : List Int} {k n : Nat} {dd : List (Nat × Nat)} {sh : Nat → Nat → Nat} {g : Nat → Nat → Int} {v3 : Int} (hv : 0 ≤ v3 ∧ v3 + 6 ≤ (sc.length : Int)) (hi : ∀ j, i32 (sc.getD j 0)) (hI : Inv dd sh g) (S : S_signs)
    (next : ∀ dd' sh' g', Inv dd' sh' g' → LR sc 200 k n 2023 [some (vZ 0), some (vR 1), some (vR 134), some (vI v3)] [] (St dd' sh' g')) : LR sc 200 k n 1866 [some (vZ 0), some (vR 1), some (vR 134), some (vI v3)] [] (St dd sh g) := by
  refine r_law_1866 (by omega) ?_
  repeat' (first
    | exact hi _
    | (refine cI_imp (S dd sh g hI _ _ (hi _) (hi _)) ?_; intro r g2 h2)
    | contradiction
    | (exact cI_imp h2 fun r2 g3 ⟨e, i, hI2⟩ => ⟨i, by rw [← e]; exact i, fun _ => next dd sh g3 hI2, fun q => absurd e q⟩)
    | omega
    | refine And.intro ?_ ?_
    | intro h)
def S_crying : Prop := ∀ (dd : List (Nat × Nat)) (sh : Nat → Nat → Nat) (g : Nat → Nat → Int), Inv dd sh g → SimI m_X11_crying m_X12_crying [] dd sh g
theorem lc_crying {sc : List Int} {k n : Nat} {dd : List (Nat × Nat)} {sh : Nat → Nat → Nat} {g : Nat → Nat → Int} {v3 : Int} (hv : 0 ≤ v3 ∧ v3 + 6 ≤ (sc.length : Int)) (hi : ∀ j, i32 (sc.getD j 0)) (hI : Inv dd sh g) (S : S_crying)
    (next : ∀ dd' sh' g', Inv dd' sh' g' → LR sc 200 k n 2023 [some (vZ 0), some (vR 1), some (vR 134), some (vI v3)] [] (St dd' sh' g')) : LR sc 200 k n 1899 [some (vZ 0), some (vR 1), some (vR 134), some (vI v3)] [] (St dd sh g) := by
  refine r_law_1899 (by omega) ?_
  repeat' (first
    | exact hi _
    | (refine cI_imp (S dd sh g hI) ?_; intro r g2 h2)
    | contradiction
    | (exact cI_imp h2 fun r2 g3 ⟨e, i, hI2⟩ => ⟨i, by rw [← e]; exact i, fun _ => next dd sh g3 hI2, fun q => absurd e q⟩)
    | omega
    | refine And.intro ?_ ?_
    | intro h)
def S_empty : Prop := ∀ (dd : List (Nat × Nat)) (sh : Nat → Nat → Nat) (g : Nat → Nat → Int), Inv dd sh g → ∀ a1 : Int, i32 a1 → SimI m_X11_empty m_X12_empty [vI a1] dd sh g
theorem lc_empty {sc : List Int} {k n : Nat} {dd : List (Nat × Nat)} {sh : Nat → Nat → Nat} {g : Nat → Nat → Int} {v3 : Int} (hv : 0 ≤ v3 ∧ v3 + 6 ≤ (sc.length : Int)) (hi : ∀ j, i32 (sc.getD j 0)) (hI : Inv dd sh g) (S : S_empty)
    (next : ∀ dd' sh' g', Inv dd' sh' g' → LR sc 200 k n 2023 [some (vZ 0), some (vR 1), some (vR 134), some (vI v3)] [] (St dd' sh' g')) : LR sc 200 k n 1912 [some (vZ 0), some (vR 1), some (vR 134), some (vI v3)] [] (St dd sh g) := by
  refine r_law_1912 (by omega) ?_
  repeat' (first
    | exact hi _
    | (refine cI_imp (S dd sh g hI _ (hi _)) ?_; intro r g2 h2)
    | contradiction
    | (exact cI_imp h2 fun r2 g3 ⟨e, i, hI2⟩ => ⟨i, by rw [← e]; exact i, fun _ => next dd sh g3 hI2, fun q => absurd e q⟩)
    | omega
    | refine And.intro ?_ ?_
    | intro h)
def S_hottest : Prop := ∀ (dd : List (Nat × Nat)) (sh : Nat → Nat → Nat) (g : Nat → Nat → Int), Inv dd sh g → SimI m_X11_hottest m_X12_hottest [] dd sh g
theorem lc_hottest {sc : List Int} {k n : Nat} {dd : List (Nat × Nat)} {sh : Nat → Nat → Nat} {g : Nat → Nat → Int} {v3 : Int} (hv : 0 ≤ v3 ∧ v3 + 6 ≤ (sc.length : Int)) (hi : ∀ j, i32 (sc.getD j 0)) (hI : Inv dd sh g) (S : S_hottest)
    (next : ∀ dd' sh' g', Inv dd' sh' g' → LR sc 200 k n 2023 [some (vZ 0), some (vR 1), some (vR 134), some (vI v3)] [] (St dd' sh' g')) : LR sc 200 k n 1935 [some (vZ 0), some (vR 1), some (vR 134), some (vI v3)] [] (St dd sh g) := by
  refine r_law_1935 (by omega) ?_
  repeat' (first
    | exact hi _
    | (refine cI_imp (S dd sh g hI) ?_; intro r g2 h2)
    | contradiction
    | (exact cI_imp h2 fun r2 g3 ⟨e, i, hI2⟩ => ⟨i, by rw [← e]; exact i, fun _ => next dd sh g3 hI2, fun q => absurd e q⟩)
    | omega
    | refine And.intro ?_ ?_
    | intro h)
def S_suspected : Prop := ∀ (dd : List (Nat × Nat)) (sh : Nat → Nat → Nat) (g : Nat → Nat → Int), Inv dd sh g → SimI m_X11_suspected m_X12_suspected [] dd sh g
theorem lc_suspected {sc : List Int} {k n : Nat} {dd : List (Nat × Nat)} {sh : Nat → Nat → Nat} {g : Nat → Nat → Int} {v3 : Int} (hv : 0 ≤ v3 ∧ v3 + 6 ≤ (sc.length : Int)) (hi : ∀ j, i32 (sc.getD j 0)) (hI : Inv dd sh g) (S : S_suspected)
    (next : ∀ dd' sh' g', Inv dd' sh' g' → LR sc 200 k n 2023 [some (vZ 0), some (vR 1), some (vR 134), some (vI v3)] [] (St dd' sh' g')) : LR sc 200 k n 1948 [some (vZ 0), some (vR 1), some (vR 134), some (vI v3)] [] (St dd sh g) := by
  refine r_law_1948 (by omega) ?_
  repeat' (first
    | exact hi _
    | (refine cI_imp (S dd sh g hI) ?_; intro r g2 h2)
    | contradiction
    | (exact cI_imp h2 fun r2 g3 ⟨e, i, hI2⟩ => ⟨i, by rw [← e]; exact i, fun _ => next dd sh g3 hI2, fun q => absurd e q⟩)
    | omega
    | refine And.intro ?_ ?_
    | intro h)
def S_falseSigns : Prop := ∀ (dd : List (Nat × Nat)) (sh : Nat → Nat → Nat) (g : Nat → Nat → Int), Inv dd sh g → SimI m_X11_falseSigns m_X12_falseSigns [] dd sh g
theorem lc_falseSigns {sc : List Int} {k n : Nat} {dd : List (Nat × Nat)} {sh : Nat → Nat → Nat} {g : Nat → Nat → Int} {v3 : Int} (hv : 0 ≤ v3 ∧ v3 + 6 ≤ (sc.length : Int)) (hi : ∀ j, i32 (sc.getD j 0)) (hI : Inv dd sh g) (S : S_falseSigns)
    (next : ∀ dd' sh' g', Inv dd' sh' g' → LR sc 200 k n 2023 [some (vZ 0), some (vR 1), some (vR 134), some (vI v3)] [] (St dd' sh' g')) : LR sc 200 k n 1961 [some (vZ 0), some (vR 1), some (vR 134), some (vI v3)] [] (St dd sh g) := by
  refine r_law_1961 (by omega) ?_
  repeat' (first
    | exact hi _
    | (refine cI_imp (S dd sh g hI) ?_; intro r g2 h2)
    | contradiction
    | (exact cI_imp h2 fun r2 g3 ⟨e, i, hI2⟩ => ⟨i, by rw [← e]; exact i, fun _ => next dd sh g3 hI2, fun q => absurd e q⟩)
    | omega
    | refine And.intro ?_ ?_
    | intro h)
def S_image : Prop := ∀ (dd : List (Nat × Nat)) (sh : Nat → Nat → Nat) (g : Nat → Nat → Int), Inv dd sh g → SimW m_X11_image m_X12_image [] dd sh g
theorem lc_image {sc : List Int} {k n : Nat} {dd : List (Nat × Nat)} {sh : Nat → Nat → Nat} {g : Nat → Nat → Int} {v3 : Int} (hv : 0 ≤ v3 ∧ v3 + 6 ≤ (sc.length : Int)) (hi : ∀ j, i32 (sc.getD j 0)) (hI : Inv dd sh g) (S : S_image)
    (next : ∀ dd' sh' g', Inv dd' sh' g' → LR sc 200 k n 2023 [some (vZ 0), some (vR 1), some (vR 134), some (vI v3)] [] (St dd' sh' g')) : LR sc 200 k n 1974 [some (vZ 0), some (vR 1), some (vR 134), some (vI v3)] [] (St dd sh g) := by
  refine r_law_1974 (by omega) ?_
  repeat' (first
    | exact hi _
    | (refine cWI_imp (S dd sh g hI) ?_; intro r dd2 sh2 g2 h2)
    | contradiction
    | (exact cI_imp h2 fun r2 g3 ⟨e, i, hI2⟩ => ⟨i, by rw [← e]; exact i, fun _ => next dd2 sh2 g3 hI2, fun q => absurd e q⟩)
    | omega
    | refine And.intro ?_ ?_
    | intro h)
def S_back : Prop := ∀ (dd : List (Nat × Nat)) (sh : Nat → Nat → Nat) (g : Nat → Nat → Int), Inv dd sh g → SimW m_X11_back m_X12_back [] dd sh g
theorem lc_back {sc : List Int} {k n : Nat} {dd : List (Nat × Nat)} {sh : Nat → Nat → Nat} {g : Nat → Nat → Int} {v3 : Int} (hv : 0 ≤ v3 ∧ v3 + 6 ≤ (sc.length : Int)) (hi : ∀ j, i32 (sc.getD j 0)) (hI : Inv dd sh g) (S : S_back)
    (next : ∀ dd' sh' g', Inv dd' sh' g' → LR sc 200 k n 2023 [some (vZ 0), some (vR 1), some (vR 134), some (vI v3)] [] (St dd' sh' g')) : LR sc 200 k n 1987 [some (vZ 0), some (vR 1), some (vR 134), some (vI v3)] [] (St dd sh g) := by
  refine r_law_1987 (by omega) ?_
  repeat' (first
    | exact hi _
    | (refine cWI_imp (S dd sh g hI) ?_; intro r dd2 sh2 g2 h2)
    | contradiction
    | (exact cI_imp h2 fun r2 g3 ⟨e, i, hI2⟩ => ⟨i, by rw [← e]; exact i, fun _ => next dd2 sh2 g3 hI2, fun q => absurd e q⟩)
    | omega
    | refine And.intro ?_ ?_
    | intro h)
def S_about : Prop := ∀ (dd : List (Nat × Nat)) (sh : Nat → Nat → Nat) (g : Nat → Nat → Int), Inv dd sh g → ∀ a1 : Int, i32 a1 → SimI m_X11_about m_X12_about [vI a1] dd sh g
theorem lc_about {sc : List Int} {k n : Nat} {dd : List (Nat × Nat)} {sh : Nat → Nat → Nat} {g : Nat → Nat → Int} {v3 : Int} (hv : 0 ≤ v3 ∧ v3 + 6 ≤ (sc.length : Int)) (hi : ∀ j, i32 (sc.getD j 0)) (hI : Inv dd sh g) (S : S_about)
    (next : ∀ dd' sh' g', Inv dd' sh' g' → LR sc 200 k n 2023 [some (vZ 0), some (vR 1), some (vR 134), some (vI v3)] [] (St dd' sh' g')) : LR sc 200 k n 2000 [some (vZ 0), some (vR 1), some (vR 134), some (vI v3)] [] (St dd sh g) := by
  refine r_law_2000 (by omega) ?_
  repeat' (first
    | exact hi _
    | (refine cI_imp (S dd sh g hI _ (hi _)) ?_; intro r g2 h2)
    | contradiction
    | (exact cI_imp h2 fun r2 g3 ⟨e, i, hI2⟩ => ⟨i, by rw [← e]; exact i, fun _ => next dd sh g3 hI2, fun q => absurd e q⟩)
    | omega
    | refine And.intro ?_ ?_
    | intro h)
def All : Prop := S_suspect ∧ S_scene ∧ S_feed ∧ S_end ∧ S_text ∧ S_fault ∧ S_by ∧ S_cut ∧ S_encore ∧ S_away ∧ S_seat ∧ S_night ∧ S_played ∧ S_seasons ∧ S_undo ∧ S_ofSuspect ∧ S_ofScene ∧ S_is ∧ S_book ∧ S_odds ∧ S_weight ∧ S_observe ∧ S_share ∧ S_tellsMost ∧ S_guess ∧ S_both ∧ S_foretold ∧ S_habit ∧ S_firstSign ∧ S_order ∧ S_unseen ∧ S_risk ∧ S_staysAway ∧ S_toRun ∧ S_cuts ∧ S_lasts ∧ S_ahead ∧ S_orders ∧ S_facing ∧ S_seating ∧ S_lonely ∧ S_bestSeat ∧ S_worth ∧ S_torn ∧ S_sittings ∧ S_claque ∧ S_sign ∧ S_whose ∧ S_signs ∧ S_crying ∧ S_empty ∧ S_hottest ∧ S_suspected ∧ S_falseSigns ∧ S_image ∧ S_back ∧ S_about
