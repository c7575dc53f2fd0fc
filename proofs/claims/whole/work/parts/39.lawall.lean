theorem iand32 {x y : Int} : i32 (iand x y) := by
  unfold iand
  have h1 := Int32.le_toInt (Int32.ofInt x &&& Int32.ofInt y)
  have h2 := Int32.toInt_lt (Int32.ofInt x &&& Int32.ofInt y)
  constructor <;> omega
theorem law_all {sc : List Int} (A : All) (hsc : sc.length ≤ 3072) (hi : ∀ j, i32 (sc.getD j 0)) :
    ∀ (m : Nat) (v3 : Int) (dd : List (Nat × Nat)) (sh : Nat → Nat → Nat) (g : Nat → Nat → Int) (k n : Nat), Inv dd sh g → 0 ≤ v3 ∧ v3 ≤ (sc.length : Int) + 5 → (sc.length : Int) - v3 ≤ 6 * (m : Int) + 5 → 7 * m ≤ k → 385 * m ≤ n →
      LR sc 200 k n 18 [some (vZ 0), some (vR 1), some (vR 134), some (vI v3)] [] (St dd sh g) := by
  intro m
  induction m with
  | zero =>
    intro v3 dd sh g k n hI h0 hm hk hn
    exact r_law_18 (by omega) ⟨⟨by omega, by omega⟩, ⟨by omega, by omega⟩, fun _ => trivial, fun h => absurd h (by omega)⟩
  | succ m ih =>
    intro v3 dd sh g k n hI h0 hm hk hn
    by_cases hb : v3 ≤ (sc.length : Int) - 6
    · have hv : 0 ≤ v3 ∧ v3 + 6 ≤ (sc.length : Int) := ⟨h0.1, by omega⟩
      refine r_law_18 (by omega) ⟨⟨by omega, by omega⟩, ⟨by omega, by omega⟩, fun h => absurd hb (by omega), fun _ => ⟨h0.1, by omega, iand32, ?_⟩⟩
      refine ⟨fun _ => r_law_2023 (by omega) (ih (v3 + 6) dd sh g k n hI (by omega) (by omega) (by omega) (by omega)), ?_, ?_, ?_, ?_, ?_, ?_, ?_, ?_, ?_, ?_, ?_, ?_, ?_, ?_, ?_, ?_, ?_, ?_, ?_, ?_, ?_, ?_, ?_, ?_, ?_, ?_, ?_, ?_, ?_, ?_, ?_, ?_, ?_, ?_, ?_, ?_, ?_, ?_, ?_, ?_, ?_, ?_, ?_, ?_, ?_, ?_, ?_, ?_, ?_, ?_, ?_, ?_, ?_, ?_, ?_, ?_, ?_⟩
      · exact fun _ => lc_suspect hv hi hI A.1 fun dd2 sh2 g2 h2 => r_law_2023 (by omega) (ih (v3 + 6) dd2 sh2 g2 k n h2 (by omega) (by omega) (by omega) (by omega))
      · exact fun _ => lc_scene hv hi hI A.2.1 fun dd2 sh2 g2 h2 => r_law_2023 (by omega) (ih (v3 + 6) dd2 sh2 g2 k n h2 (by omega) (by omega) (by omega) (by omega))
      · exact fun _ => lc_feed hv hi hI A.2.2.1 fun dd2 sh2 g2 h2 => r_law_2023 (by omega) (ih (v3 + 6) dd2 sh2 g2 k n h2 (by omega) (by omega) (by omega) (by omega))
      · exact fun _ => lc_end hv hi hI A.2.2.2.1 fun dd2 sh2 g2 h2 => r_law_2023 (by omega) (ih (v3 + 6) dd2 sh2 g2 k n h2 (by omega) (by omega) (by omega) (by omega))
      · exact fun _ => lc_text hv hi hI (by omega) (by omega) A.2.2.2.2.1 fun dd2 sh2 g2 h2 => r_law_2023 (by omega) (ih (v3 + 6) dd2 sh2 g2 (k - 7) (n - 385) h2 (by omega) (by omega) (by omega) (by omega))
      · exact fun _ => lc_fault hv hi hI A.2.2.2.2.2.1 fun dd2 sh2 g2 h2 => r_law_2023 (by omega) (ih (v3 + 6) dd2 sh2 g2 k n h2 (by omega) (by omega) (by omega) (by omega))
      · exact fun _ => lc_by hv hi hI A.2.2.2.2.2.2.1 fun dd2 sh2 g2 h2 => r_law_2023 (by omega) (ih (v3 + 6) dd2 sh2 g2 k n h2 (by omega) (by omega) (by omega) (by omega))
      · exact fun _ => lc_cut hv hi hI A.2.2.2.2.2.2.2.1 fun dd2 sh2 g2 h2 => r_law_2023 (by omega) (ih (v3 + 6) dd2 sh2 g2 k n h2 (by omega) (by omega) (by omega) (by omega))
      · exact fun _ => lc_encore hv hi hI A.2.2.2.2.2.2.2.2.1 fun dd2 sh2 g2 h2 => r_law_2023 (by omega) (ih (v3 + 6) dd2 sh2 g2 k n h2 (by omega) (by omega) (by omega) (by omega))
      · exact fun _ => lc_away hv hi hI A.2.2.2.2.2.2.2.2.2.1 fun dd2 sh2 g2 h2 => r_law_2023 (by omega) (ih (v3 + 6) dd2 sh2 g2 k n h2 (by omega) (by omega) (by omega) (by omega))
      · exact fun _ => lc_seat hv hi hI A.2.2.2.2.2.2.2.2.2.2.1 fun dd2 sh2 g2 h2 => r_law_2023 (by omega) (ih (v3 + 6) dd2 sh2 g2 k n h2 (by omega) (by omega) (by omega) (by omega))
      · exact fun _ => lc_night hv hi hI A.2.2.2.2.2.2.2.2.2.2.2.1 fun dd2 sh2 g2 h2 => r_law_2023 (by omega) (ih (v3 + 6) dd2 sh2 g2 k n h2 (by omega) (by omega) (by omega) (by omega))
      · exact fun _ => lc_played hv hi hI A.2.2.2.2.2.2.2.2.2.2.2.2.1 fun dd2 sh2 g2 h2 => r_law_2023 (by omega) (ih (v3 + 6) dd2 sh2 g2 k n h2 (by omega) (by omega) (by omega) (by omega))
      · exact fun _ => lc_seasons hv hi hI A.2.2.2.2.2.2.2.2.2.2.2.2.2.1 fun dd2 sh2 g2 h2 => r_law_2023 (by omega) (ih (v3 + 6) dd2 sh2 g2 k n h2 (by omega) (by omega) (by omega) (by omega))
      · exact fun _ => lc_undo hv hi hI A.2.2.2.2.2.2.2.2.2.2.2.2.2.2.1 fun dd2 sh2 g2 h2 => r_law_2023 (by omega) (ih (v3 + 6) dd2 sh2 g2 k n h2 (by omega) (by omega) (by omega) (by omega))
      · exact fun _ => lc_ofSuspect hv hi hI A.2.2.2.2.2.2.2.2.2.2.2.2.2.2.2.1 fun dd2 sh2 g2 h2 => r_law_2023 (by omega) (ih (v3 + 6) dd2 sh2 g2 k n h2 (by omega) (by omega) (by omega) (by omega))
      · exact fun _ => lc_ofScene hv hi hI A.2.2.2.2.2.2.2.2.2.2.2.2.2.2.2.2.1 fun dd2 sh2 g2 h2 => r_law_2023 (by omega) (ih (v3 + 6) dd2 sh2 g2 k n h2 (by omega) (by omega) (by omega) (by omega))
      · exact fun _ => lc_is hv hi hI A.2.2.2.2.2.2.2.2.2.2.2.2.2.2.2.2.2.1 fun dd2 sh2 g2 h2 => r_law_2023 (by omega) (ih (v3 + 6) dd2 sh2 g2 k n h2 (by omega) (by omega) (by omega) (by omega))
      · exact fun _ => lc_book hv hi hI A.2.2.2.2.2.2.2.2.2.2.2.2.2.2.2.2.2.2.1 fun dd2 sh2 g2 h2 => r_law_2023 (by omega) (ih (v3 + 6) dd2 sh2 g2 k n h2 (by omega) (by omega) (by omega) (by omega))
      · exact fun _ => lc_odds hv hi hI A.2.2.2.2.2.2.2.2.2.2.2.2.2.2.2.2.2.2.2.1 fun dd2 sh2 g2 h2 => r_law_2023 (by omega) (ih (v3 + 6) dd2 sh2 g2 k n h2 (by omega) (by omega) (by omega) (by omega))
      · exact fun _ => lc_weight hv hi hI A.2.2.2.2.2.2.2.2.2.2.2.2.2.2.2.2.2.2.2.2.1 fun dd2 sh2 g2 h2 => r_law_2023 (by omega) (ih (v3 + 6) dd2 sh2 g2 k n h2 (by omega) (by omega) (by omega) (by omega))
      · exact fun _ => lc_observe hv hi hI A.2.2.2.2.2.2.2.2.2.2.2.2.2.2.2.2.2.2.2.2.2.1 fun dd2 sh2 g2 h2 => r_law_2023 (by omega) (ih (v3 + 6) dd2 sh2 g2 k n h2 (by omega) (by omega) (by omega) (by omega))
      · exact fun _ => lc_share hv hi hI A.2.2.2.2.2.2.2.2.2.2.2.2.2.2.2.2.2.2.2.2.2.2.1 fun dd2 sh2 g2 h2 => r_law_2023 (by omega) (ih (v3 + 6) dd2 sh2 g2 k n h2 (by omega) (by omega) (by omega) (by omega))
      · exact fun _ => lc_tellsMost hv hi hI A.2.2.2.2.2.2.2.2.2.2.2.2.2.2.2.2.2.2.2.2.2.2.2.1 fun dd2 sh2 g2 h2 => r_law_2023 (by omega) (ih (v3 + 6) dd2 sh2 g2 k n h2 (by omega) (by omega) (by omega) (by omega))
      · exact fun _ => lc_guess hv hi hI A.2.2.2.2.2.2.2.2.2.2.2.2.2.2.2.2.2.2.2.2.2.2.2.2.1 fun dd2 sh2 g2 h2 => r_law_2023 (by omega) (ih (v3 + 6) dd2 sh2 g2 k n h2 (by omega) (by omega) (by omega) (by omega))
      · exact fun _ => lc_both hv hi hI A.2.2.2.2.2.2.2.2.2.2.2.2.2.2.2.2.2.2.2.2.2.2.2.2.2.1 fun dd2 sh2 g2 h2 => r_law_2023 (by omega) (ih (v3 + 6) dd2 sh2 g2 k n h2 (by omega) (by omega) (by omega) (by omega))
      · exact fun _ => lc_foretold hv hi hI A.2.2.2.2.2.2.2.2.2.2.2.2.2.2.2.2.2.2.2.2.2.2.2.2.2.2.1 fun dd2 sh2 g2 h2 => r_law_2023 (by omega) (ih (v3 + 6) dd2 sh2 g2 k n h2 (by omega) (by omega) (by omega) (by omega))
      · exact fun _ => lc_habit hv hi hI A.2.2.2.2.2.2.2.2.2.2.2.2.2.2.2.2.2.2.2.2.2.2.2.2.2.2.2.1 fun dd2 sh2 g2 h2 => r_law_2023 (by omega) (ih (v3 + 6) dd2 sh2 g2 k n h2 (by omega) (by omega) (by omega) (by omega))
      · exact fun _ => lc_firstSign hv hi hI A.2.2.2.2.2.2.2.2.2.2.2.2.2.2.2.2.2.2.2.2.2.2.2.2.2.2.2.2.1 fun dd2 sh2 g2 h2 => r_law_2023 (by omega) (ih (v3 + 6) dd2 sh2 g2 k n h2 (by omega) (by omega) (by omega) (by omega))
      · exact fun _ => lc_order hv hi hI A.2.2.2.2.2.2.2.2.2.2.2.2.2.2.2.2.2.2.2.2.2.2.2.2.2.2.2.2.2.1 fun dd2 sh2 g2 h2 => r_law_2023 (by omega) (ih (v3 + 6) dd2 sh2 g2 k n h2 (by omega) (by omega) (by omega) (by omega))
      · exact fun _ => lc_unseen hv hi hI A.2.2.2.2.2.2.2.2.2.2.2.2.2.2.2.2.2.2.2.2.2.2.2.2.2.2.2.2.2.2.1 fun dd2 sh2 g2 h2 => r_law_2023 (by omega) (ih (v3 + 6) dd2 sh2 g2 k n h2 (by omega) (by omega) (by omega) (by omega))
      · exact fun _ => lc_risk hv hi hI A.2.2.2.2.2.2.2.2.2.2.2.2.2.2.2.2.2.2.2.2.2.2.2.2.2.2.2.2.2.2.2.1 fun dd2 sh2 g2 h2 => r_law_2023 (by omega) (ih (v3 + 6) dd2 sh2 g2 k n h2 (by omega) (by omega) (by omega) (by omega))
      · exact fun _ => lc_staysAway hv hi hI A.2.2.2.2.2.2.2.2.2.2.2.2.2.2.2.2.2.2.2.2.2.2.2.2.2.2.2.2.2.2.2.2.1 fun dd2 sh2 g2 h2 => r_law_2023 (by omega) (ih (v3 + 6) dd2 sh2 g2 k n h2 (by omega) (by omega) (by omega) (by omega))
      · exact fun _ => lc_toRun hv hi hI A.2.2.2.2.2.2.2.2.2.2.2.2.2.2.2.2.2.2.2.2.2.2.2.2.2.2.2.2.2.2.2.2.2.1 fun dd2 sh2 g2 h2 => r_law_2023 (by omega) (ih (v3 + 6) dd2 sh2 g2 k n h2 (by omega) (by omega) (by omega) (by omega))
      · exact fun _ => lc_cuts hv hi hI A.2.2.2.2.2.2.2.2.2.2.2.2.2.2.2.2.2.2.2.2.2.2.2.2.2.2.2.2.2.2.2.2.2.2.1 fun dd2 sh2 g2 h2 => r_law_2023 (by omega) (ih (v3 + 6) dd2 sh2 g2 k n h2 (by omega) (by omega) (by omega) (by omega))
      · exact fun _ => lc_lasts hv hi hI A.2.2.2.2.2.2.2.2.2.2.2.2.2.2.2.2.2.2.2.2.2.2.2.2.2.2.2.2.2.2.2.2.2.2.2.1 fun dd2 sh2 g2 h2 => r_law_2023 (by omega) (ih (v3 + 6) dd2 sh2 g2 k n h2 (by omega) (by omega) (by omega) (by omega))
      · exact fun _ => lc_ahead hv hi hI A.2.2.2.2.2.2.2.2.2.2.2.2.2.2.2.2.2.2.2.2.2.2.2.2.2.2.2.2.2.2.2.2.2.2.2.2.1 fun dd2 sh2 g2 h2 => r_law_2023 (by omega) (ih (v3 + 6) dd2 sh2 g2 k n h2 (by omega) (by omega) (by omega) (by omega))
      · exact fun _ => lc_orders hv hi hI A.2.2.2.2.2.2.2.2.2.2.2.2.2.2.2.2.2.2.2.2.2.2.2.2.2.2.2.2.2.2.2.2.2.2.2.2.2.1 fun dd2 sh2 g2 h2 => r_law_2023 (by omega) (ih (v3 + 6) dd2 sh2 g2 k n h2 (by omega) (by omega) (by omega) (by omega))
      · exact fun _ => lc_facing hv hi hI A.2.2.2.2.2.2.2.2.2.2.2.2.2.2.2.2.2.2.2.2.2.2.2.2.2.2.2.2.2.2.2.2.2.2.2.2.2.2.1 fun dd2 sh2 g2 h2 => r_law_2023 (by omega) (ih (v3 + 6) dd2 sh2 g2 k n h2 (by omega) (by omega) (by omega) (by omega))
      · exact fun _ => lc_seating hv hi hI A.2.2.2.2.2.2.2.2.2.2.2.2.2.2.2.2.2.2.2.2.2.2.2.2.2.2.2.2.2.2.2.2.2.2.2.2.2.2.2.1 fun dd2 sh2 g2 h2 => r_law_2023 (by omega) (ih (v3 + 6) dd2 sh2 g2 k n h2 (by omega) (by omega) (by omega) (by omega))
      · exact fun _ => lc_lonely hv hi hI A.2.2.2.2.2.2.2.2.2.2.2.2.2.2.2.2.2.2.2.2.2.2.2.2.2.2.2.2.2.2.2.2.2.2.2.2.2.2.2.2.1 fun dd2 sh2 g2 h2 => r_law_2023 (by omega) (ih (v3 + 6) dd2 sh2 g2 k n h2 (by omega) (by omega) (by omega) (by omega))
      · exact fun _ => lc_bestSeat hv hi hI A.2.2.2.2.2.2.2.2.2.2.2.2.2.2.2.2.2.2.2.2.2.2.2.2.2.2.2.2.2.2.2.2.2.2.2.2.2.2.2.2.2.1 fun dd2 sh2 g2 h2 => r_law_2023 (by omega) (ih (v3 + 6) dd2 sh2 g2 k n h2 (by omega) (by omega) (by omega) (by omega))
      · exact fun _ => lc_worth hv hi hI A.2.2.2.2.2.2.2.2.2.2.2.2.2.2.2.2.2.2.2.2.2.2.2.2.2.2.2.2.2.2.2.2.2.2.2.2.2.2.2.2.2.2.1 fun dd2 sh2 g2 h2 => r_law_2023 (by omega) (ih (v3 + 6) dd2 sh2 g2 k n h2 (by omega) (by omega) (by omega) (by omega))
      · exact fun _ => lc_torn hv hi hI A.2.2.2.2.2.2.2.2.2.2.2.2.2.2.2.2.2.2.2.2.2.2.2.2.2.2.2.2.2.2.2.2.2.2.2.2.2.2.2.2.2.2.2.1 fun dd2 sh2 g2 h2 => r_law_2023 (by omega) (ih (v3 + 6) dd2 sh2 g2 k n h2 (by omega) (by omega) (by omega) (by omega))
      · exact fun _ => lc_sittings hv hi hI A.2.2.2.2.2.2.2.2.2.2.2.2.2.2.2.2.2.2.2.2.2.2.2.2.2.2.2.2.2.2.2.2.2.2.2.2.2.2.2.2.2.2.2.2.1 fun dd2 sh2 g2 h2 => r_law_2023 (by omega) (ih (v3 + 6) dd2 sh2 g2 k n h2 (by omega) (by omega) (by omega) (by omega))
      · exact fun _ => lc_claque hv hi hI A.2.2.2.2.2.2.2.2.2.2.2.2.2.2.2.2.2.2.2.2.2.2.2.2.2.2.2.2.2.2.2.2.2.2.2.2.2.2.2.2.2.2.2.2.2.1 fun dd2 sh2 g2 h2 => r_law_2023 (by omega) (ih (v3 + 6) dd2 sh2 g2 k n h2 (by omega) (by omega) (by omega) (by omega))
      · exact fun _ => lc_sign hv hi hI A.2.2.2.2.2.2.2.2.2.2.2.2.2.2.2.2.2.2.2.2.2.2.2.2.2.2.2.2.2.2.2.2.2.2.2.2.2.2.2.2.2.2.2.2.2.2.1 fun dd2 sh2 g2 h2 => r_law_2023 (by omega) (ih (v3 + 6) dd2 sh2 g2 k n h2 (by omega) (by omega) (by omega) (by omega))
      · exact fun _ => lc_whose hv hi hI A.2.2.2.2.2.2.2.2.2.2.2.2.2.2.2.2.2.2.2.2.2.2.2.2.2.2.2.2.2.2.2.2.2.2.2.2.2.2.2.2.2.2.2.2.2.2.2.1 fun dd2 sh2 g2 h2 => r_law_2023 (by omega) (ih (v3 + 6) dd2 sh2 g2 k n h2 (by omega) (by omega) (by omega) (by omega))
      · exact fun _ => lc_signs hv hi hI A.2.2.2.2.2.2.2.2.2.2.2.2.2.2.2.2.2.2.2.2.2.2.2.2.2.2.2.2.2.2.2.2.2.2.2.2.2.2.2.2.2.2.2.2.2.2.2.2.1 fun dd2 sh2 g2 h2 => r_law_2023 (by omega) (ih (v3 + 6) dd2 sh2 g2 k n h2 (by omega) (by omega) (by omega) (by omega))
      · exact fun _ => lc_crying hv hi hI A.2.2.2.2.2.2.2.2.2.2.2.2.2.2.2.2.2.2.2.2.2.2.2.2.2.2.2.2.2.2.2.2.2.2.2.2.2.2.2.2.2.2.2.2.2.2.2.2.2.1 fun dd2 sh2 g2 h2 => r_law_2023 (by omega) (ih (v3 + 6) dd2 sh2 g2 k n h2 (by omega) (by omega) (by omega) (by omega))
      · exact fun _ => lc_empty hv hi hI A.2.2.2.2.2.2.2.2.2.2.2.2.2.2.2.2.2.2.2.2.2.2.2.2.2.2.2.2.2.2.2.2.2.2.2.2.2.2.2.2.2.2.2.2.2.2.2.2.2.2.1 fun dd2 sh2 g2 h2 => r_law_2023 (by omega) (ih (v3 + 6) dd2 sh2 g2 k n h2 (by omega) (by omega) (by omega) (by omega))
      · exact fun _ => lc_hottest hv hi hI A.2.2.2.2.2.2.2.2.2.2.2.2.2.2.2.2.2.2.2.2.2.2.2.2.2.2.2.2.2.2.2.2.2.2.2.2.2.2.2.2.2.2.2.2.2.2.2.2.2.2.2.1 fun dd2 sh2 g2 h2 => r_law_2023 (by omega) (ih (v3 + 6) dd2 sh2 g2 k n h2 (by omega) (by omega) (by omega) (by omega))
      · exact fun _ => lc_suspected hv hi hI A.2.2.2.2.2.2.2.2.2.2.2.2.2.2.2.2.2.2.2.2.2.2.2.2.2.2.2.2.2.2.2.2.2.2.2.2.2.2.2.2.2.2.2.2.2.2.2.2.2.2.2.2.1 fun dd2 sh2 g2 h2 => r_law_2023 (by omega) (ih (v3 + 6) dd2 sh2 g2 k n h2 (by omega) (by omega) (by omega) (by omega))
      · exact fun _ => lc_falseSigns hv hi hI A.2.2.2.2.2.2.2.2.2.2.2.2.2.2.2.2.2.2.2.2.2.2.2.2.2.2.2.2.2.2.2.2.2.2.2.2.2.2.2.2.2.2.2.2.2.2.2.2.2.2.2.2.2.1 fun dd2 sh2 g2 h2 => r_law_2023 (by omega) (ih (v3 + 6) dd2 sh2 g2 k n h2 (by omega) (by omega) (by omega) (by omega))
      · exact fun _ => lc_image hv hi hI A.2.2.2.2.2.2.2.2.2.2.2.2.2.2.2.2.2.2.2.2.2.2.2.2.2.2.2.2.2.2.2.2.2.2.2.2.2.2.2.2.2.2.2.2.2.2.2.2.2.2.2.2.2.2.1 fun dd2 sh2 g2 h2 => r_law_2023 (by omega) (ih (v3 + 6) dd2 sh2 g2 k n h2 (by omega) (by omega) (by omega) (by omega))
      · exact fun _ => lc_back hv hi hI A.2.2.2.2.2.2.2.2.2.2.2.2.2.2.2.2.2.2.2.2.2.2.2.2.2.2.2.2.2.2.2.2.2.2.2.2.2.2.2.2.2.2.2.2.2.2.2.2.2.2.2.2.2.2.2.1 fun dd2 sh2 g2 h2 => r_law_2023 (by omega) (ih (v3 + 6) dd2 sh2 g2 k n h2 (by omega) (by omega) (by omega) (by omega))
      · exact fun _ => lc_about hv hi hI A.2.2.2.2.2.2.2.2.2.2.2.2.2.2.2.2.2.2.2.2.2.2.2.2.2.2.2.2.2.2.2.2.2.2.2.2.2.2.2.2.2.2.2.2.2.2.2.2.2.2.2.2.2.2.2.2 fun dd2 sh2 g2 h2 => r_law_2023 (by omega) (ih (v3 + 6) dd2 sh2 g2 k n h2 (by omega) (by omega) (by omega) (by omega))
    · exact r_law_18 (by omega) ⟨⟨by omega, by omega⟩, ⟨by omega, by omega⟩, fun _ => trivial, fun h => absurd h hb⟩
