-- the reference reads the tape
theorem ex1_id {α : Type} {f : Nat → α} {n : Nat} {x : α} (h : x = f n) : ex1 f n x = f := by
  funext i
  by_cases e : i = n
  · subst e; rw [ex1_at]; exact h
  · exact ex1_ne e
section RW
variable {B : Nat → Int} {n k : Nat} {st ln : Nat → Nat} {x0 N : Nat} {ts css kk : Nat → Nat} {vv ww : Nat → Int} {CC : Nat → List (Int × Int)}
theorem Seq.pre {kd vl : Nat → Int} {i : Nat} (h : Seq kd vl N ts css kk vv ww CC) (hi : i ≤ N) : Seq kd vl i ts css kk vv ww CC := ⟨h.1, h.2.1, fun j hj => h.2.2 j (by omega)⟩
theorem owF_s {i w : Nat} : owF kk (i + 1) w ↔ (owF kk i w ∨ w = kk i) := by
  have := owF_up (kk := kk) (N := i) (k' := kk i) (w := w)
  rw [ex1_id (f := kk) (n := i) rfl] at this
  exact this
theorem RwR.step {kd vl : Nat → Int} {i : Nat} {g g' : Nat → Nat → Int} (hk : ∀ t, kd t ≠ 0 → t < k) (h : Seq kd vl N ts css kk vv ww CC) (hi : i < N) (hR : RwR g x0 i css kk vv ww CC) (hA : AfR x0 i (css i) g g' (kk i) (vv i) (ww i) (CC i)) : RwR g' x0 (i + 1) css kk vv ww CC := by
  obtain ⟨c1, c2⟩ := h.2.2 i hi
  have := RwR.more (h.pre (Nat.le_of_lt hi)) hk c1 hR hA
  rw [ex1_id (f := css) (n := i + 1) c2.symm, ex1_id (f := kk) (n := i) rfl, ex1_id (f := vv) (n := i) rfl, ex1_id (f := ww) (n := i) rfl, ex1_id (f := CC) (n := i) rfl] at this
  exact this
def RIx (B : Nat → Int) (n k : Nat) (st ln : Nat → Nat) (x0 i : Nat) (ts css kk : Nat → Nat) (vv ww : Nat → Int) (CC : Nat → List (Int × Int)) (g : Nat → Nat → Int) : Prop :=
  LT B n k st ln g ∧ TkR B n k st ln (g 134) (ts i) ∧ RwR g x0 i css kk vv ww CC ∧ g 134 12 = (x0 : Int) ∧ g 134 13 = (css i : Int) ∧ (0 ≤ g 134 19 ∧ g 134 19 < 8) ∧ ∀ w, w < 3 → (bt (g 134 19) w = 1 ↔ owF kk i w)
theorem r_walk {d : Nat} {dd : List (Nat × Nat)} {sh : Nat → Nat → Nat} {g : Nat → Nat → Int} {K : Int → (Nat → Nat → Int) → Prop} (hx0 : x0 ≤ 2043) (hS : Seq (kdF B k st ln) (vlF B k st ln) N ts css kk vv ww CC) (hend : ∀ g', TxF x0 g g' → RIx B n k st ln x0 N ts css kk vv ww CC g' → rI (d + 11) m_X12_readText 43 [some (vR 134), none] [] dd sh g' K) : ∀ m i, i + m = N → ∀ g1, TxF x0 g g1 → RIx B n k st ln x0 i ts css kk vv ww CC g1 → rI (d + 11) m_X12_readText 43 [some (vR 134), none] [] dd sh g1 K := by
  have hk : ∀ t, kdF B k st ln t ≠ 0 → t < k := fun t => kdF_lt
  intro m
  induction m with
  | zero =>
    intro i hi g1 f1 hR
    obtain rfl : i = N := by omega
    exact hend g1 f1 hR
  | succ m ih =>
    intro i hi g1 f1 hR
    obtain ⟨hL, hT, hRw, h12, h13, h19, how⟩ := hR
    obtain ⟨s1, s2, s3⟩ := seq_b hk hS i (by omega)
    obtain ⟨c1, c2⟩ := hS.2.2 i (by omega)
    have hz : kdF B k st ln (ts i) ≠ 0 := by
      rcases c1 with ⟨_, h⟩ | ⟨w, h, _⟩
      · cases h
      · rw [h]; omega
    have i9 := hT.i9 hL.2.2.1 hL.2.1 hL.2.2.2.2
    have z9 := hT.m9.2.2.2.2.2.2.2.2
    refine r_X12_readText_43 ⟨⟨by omega, by omega⟩, fun h => absurd (z9.mp h) hz, fun _ => ?_⟩
    refine r_clause (d := d) hL hT h12 hx0 h13 s1 s2 s3 hRw.1 h19 how c1 (fun f p g' e => by cases e) (fun t' k' v w C g' e f2 hA hL' hT' => ?_)
    cases e
    refine ⟨⟨by decide, by decide⟩, fun _ => ?_, fun h => absurd rfl h⟩
    refine ih (i + 1) (by omega) g' (f1.tr f2) ⟨hL', hT', hRw.step hk hS (by omega) hA, by rw [f2.2.1 12 (by decide)]; exact h12, by rw [hA.2.2.2.2.2.2.2.1, c2], ?_⟩
    rw [hA.2.2.2.2.2.2.2.2]
    by_cases h2 : kk i ≤ 2
    · rw [if_pos h2]
      obtain ⟨o1, o2, -, o4⟩ := ior_bt (x := g1 134 19) (n := kk i) h19.1 (by omega) (by omega)
      have o3 : ior (g1 134 19) ((1 : Int) * 2 ^ kk i) < 8 := by
        obtain ⟨x, hx⟩ := Int.eq_ofNat_of_zero_le h19.1
        have hx8 : x < 8 := by omega
        have hd : ∀ x : Fin 8, ∀ y : Fin 3, ior ((x.val : Nat) : Int) ((1 : Int) * 2 ^ y.val) < 8 := by decide +kernel
        rw [hx]
        exact hd ⟨x, hx8⟩ ⟨kk i, by omega⟩
      refine ⟨⟨o1, o3⟩, fun w hw => ?_⟩
      rw [o4 w (by omega), owF_s]
      by_cases e : w = kk i
      · rw [if_pos e]; exact ⟨fun _ => Or.inr e, fun _ => rfl⟩
      · rw [if_neg e, how w hw]
        exact ⟨Or.inl, fun h => h.resolve_right e⟩
    · rw [if_neg h2]
      refine ⟨h19, fun w hw => ?_⟩
      rw [how w hw, owF_s]
      exact ⟨Or.inl, fun h => h.resolve_right (by omega)⟩
/-- what the reference's reading leaves alone -/
def TxG (x0 : Nat) (g g' : Nat → Nat → Int) : Prop := (∀ q, q ≠ 134 → q ≠ 135 → q ≠ 137 → q ≠ 139 → g' q = g q) ∧ g' 134 22 = g 134 22 ∧ (∀ i, (i < x0 ∨ x0 + 681 ≤ i) → g' 137 i = g 137 i) ∧ ∀ j, j ≠ 2 → g' 135 j = g 135 j
theorem r_readText {d : Nat} {dd : List (Nat × Nat)} {sh : Nat → Nat → Nat} {g : Nat → Nat → Int} {K : Int → (Nat → Nat → Int) → Prop} {a2 : Nat} (hx : x0 = 681 * a2) (h2 : g 135 2 = (a2 : Int)) (ha : a2 < 4) (hL : LT B n k st ln g) (hS : Seq (kdF B k st ln) (vlF B k st ln) N ts css kk vv ww CC)
    (hbad : kdF B k st ln (ts N) ≠ 0 → ∃ f p, ClauseR (kdF B k st ln) (vlF B k st ln) N (owF kk N) (ts N) (.inl (f, p)) ∧ ∀ g', TxG x0 g g' → g' 135 2 = (a2 : Int) → g' 134 8 = ((stK n k st p : Nat) : Int) → i32 f → f ≠ 0 → K f g')
    (hok : kdF B k st ln (ts N) = 0 → ∀ g', TxG x0 g g' → g' 135 2 = (a2 : Int) → RwR g' x0 N css kk vv ww CC → K 0 g') : cI (d + 12) m_X12_readText [vR 134] dd sh g K := by
  have hk : ∀ t, kdF B k st ln t ≠ 0 → t < k := fun t => kdF_lt
  refine mkI (ls := [some (vR 134), none]) rfl rfl rfl rfl rfl (r_X12_readText_0 ?_)
  rw [h2]
  refine ⟨by omega, by omega, ?_⟩
  rw [show ((681 : Int) * (a2 : Int)).toNat = x0 by omega, show (681 : Int) * (a2 : Int) = (x0 : Int) by omega]
  generalize hg1 : (up (up (up (up (up g 134 12 (x0 : Int)) 137 x0 0) 134 13 0) 134 19 0) 134 7 0) = g1
  have o1 : ∀ q, q ≠ 134 → q ≠ 137 → g1 q = g q := fun q a b => by rw [← hg1, up_off a, up_off a, up_off a, up_off b, up_off a]
  have v : ∀ j, j ≠ 7 → j ≠ 12 → j ≠ 13 → j ≠ 19 → g1 134 j = g 134 j := fun j a b c e => by rw [← hg1, up_at, if_neg a, up_at, if_neg e, up_at, if_neg c, up_off (by decide), up_at, if_neg b]
  have w137 : ∀ j, j ≠ x0 → g1 137 j = g 137 j := fun j a => by rw [← hg1, up_off (by decide), up_off (by decide), up_off (by decide), up_at, if_neg a, up_off (by decide)]
  have w0 : g1 137 x0 = 0 := by rw [← hg1, up_off (by decide), up_off (by decide), up_off (by decide), up_at, if_pos rfl]
  have w7 : g1 134 7 = 0 := by rw [← hg1, up_at, if_pos rfl]
  have w19 : g1 134 19 = 0 := by rw [← hg1, up_at, if_neg (by decide), up_at, if_pos rfl]
  have w13 : g1 134 13 = 0 := by rw [← hg1, up_at, if_neg (by decide), up_at, if_neg (by decide), up_at, if_pos rfl]
  have w12 : g1 134 12 = (x0 : Int) := by rw [← hg1, up_at, if_neg (by decide), up_at, if_neg (by decide), up_at, if_neg (by decide), up_off (by decide), up_at, if_pos rfl]
  clear hg1
  obtain ⟨l1, l2, l3, l4, l5⟩ := id hL
  have e138 : g1 138 = B := by rw [o1 138 (by decide) (by decide)]; exact l4
  refine s_X12_nextToken (d := d + 9) (n := n) (k := k) (t := 0) (p := 0) (st := st) (ln := ln) (by rw [v 4 (by decide) (by decide) (by decide) (by decide)]; exact l1) l2 (by rw [e138]; exact l3) (by rw [e138]; exact l5) (Nat.zero_le _) w7 (Nat.zero_le _) (by rw [e138]; exact fun j _ hj => l5.gap0 j hj) fun g2 f1 f2 hT => ?_
  rw [e138] at hT
  have hx3 : x0 ≤ 2043 := by omega
  have fx : ∀ g', TxF x0 g2 g' → TxG x0 g g' ∧ g' 135 2 = (a2 : Int) := fun g' f => by
    have e5 : g' 135 = g 135 := by rw [f.1 135 (by decide) (by decide) (by decide), f1 135 (by decide), o1 135 (by decide) (by decide)]
    refine ⟨⟨fun q a b c e => by rw [f.1 q a c e, f1 q a, o1 q a c], ?_, fun i hi => ?_, fun j _ => by rw [e5]⟩, by rw [e5]; exact h2⟩
    · rw [f.2.1 22 (by decide), f2 22 (by decide), v 22 (by decide) (by decide) (by decide) (by decide)]
    · rw [f.2.2 i hi, f1 137 (by decide), w137 i (by omega)]
  refine r_walk (g := g2) (N := N) (x0 := x0) hx3 hS (fun g3 f3 hR => ?_) N 0 (Nat.zero_add _) g2 TxF.rf ⟨⟨?_, l2, l3, ?_, l5⟩, ?_, ⟨?_, fun i hi => absurd hi (by omega)⟩, ?_, ?_, ?_, fun w hw => ?_⟩
  · obtain ⟨hL3, hT3, hRw, h12, h13, h19, how⟩ := hR
    obtain ⟨s1, s2, s3⟩ := seq_b hk hS N (Nat.le_refl _)
    have i9 := hT3.i9 hL3.2.2.1 hL3.2.1 hL3.2.2.2.2
    have z9 := hT3.m9.2.2.2.2.2.2.2.2
    refine r_X12_readText_43 ⟨⟨by omega, by omega⟩, fun h => ?_, fun h => ?_⟩
    · obtain ⟨a, b⟩ := fx g3 f3
      exact hok (z9.mp h) g3 a b hRw
    · have hz : kdF B k st ln (ts N) ≠ 0 := fun e => h (z9.mpr e)
      obtain ⟨f, p, hc, hKb⟩ := hbad hz
      refine r_clause (d := d) hL3 hT3 h12 hx3 h13 s1 s2 s3 hRw.1 h19 how hc (fun f' p' g' e hf hfi f4 h8 => ?_) (fun t' k' v w C g' e => by cases e)
      cases e
      obtain ⟨a, b⟩ := fx g' (f3.tr f4)
      exact ⟨hfi, fun h => absurd h hf, fun _ => hKb g' a b h8 hfi hf⟩
  · rw [f2 4 (by decide), v 4 (by decide) (by decide) (by decide) (by decide)]
    exact l1
  · rw [f1 138 (by decide)]; exact e138
  · rw [hS.1]; exact hT
  · rw [f1 137 (by decide)]; exact w0
  · rw [f2 12 (by decide)]; exact w12
  · rw [f2 13 (by decide), hS.2.1]; exact w13
  · rw [f2 19 (by decide), w19]; exact ⟨by decide, by decide⟩
  · rw [f2 19 (by decide), w19]
    have : ∀ w : Fin 3, bt 0 w.val = 0 := by decide +kernel
    rw [this ⟨w, hw⟩]
    exact ⟨fun h => absurd h (by decide), fun ⟨j, hj, _⟩ => absurd hj (by omega)⟩
theorem r_text_bad {d : Nat} {dd : List (Nat × Nat)} {sh : Nat → Nat → Nat} {g : Nat → Nat → Int} {K : Int → (Nat → Nat → Int) → Prop} {a2 : Nat} {f : Int} {p : Nat} (hx : x0 = 681 * a2) (h2 : g 135 2 = (a2 : Int)) (ha : a2 < 4) (hL : LT B n k st ln g) (hS : Seq (kdF B k st ln) (vlF B k st ln) N ts css kk vv ww CC) (hz : kdF B k st ln (ts N) ≠ 0) (hc : ClauseR (kdF B k st ln) (vlF B k st ln) N (owF kk N) (ts N) (.inl (f, p)))
    (hK : ∀ g', TxG x0 g g' → g' 135 2 = (a2 : Int) → g' 134 5 = f → g' 134 6 = ((stK n k st p : Nat) : Int) → g' 134 4 = 0 → K (-1) g') : cI (d + 13) m_X12_text [vR 134] dd sh g K := by
  refine mkI (ls := [some (vR 134)]) rfl rfl rfl rfl rfl (r_X12_text_0 ?_)
  rw [h2]
  refine ⟨⟨by omega, by omega⟩, fun _ => ?_, fun h => absurd h (by omega)⟩
  refine r_readText (d := d) hx h2 ha hL hS (fun _ => ⟨f, p, hc, fun g' t e2 e8 hfi hf => ⟨hfi, fun _ => ⟨fun h => absurd h hf, fun _ => ?_⟩, fun h => absurd h hf⟩⟩) (fun h => absurd h hz)
  have u : ∀ q, q ≠ 134 → up (up (up g' 134 5 f) 134 6 (g' 134 8)) 134 4 0 q = g' q := fun q hq => by rw [up_off hq, up_off hq, up_off hq]
  refine hK _ ⟨fun q a b c e => by rw [u q a]; exact t.1 q a b c e, ?_, fun i hi => by rw [u 137 (by decide)]; exact t.2.2.1 i hi, fun j hj => by rw [u 135 (by decide)]; exact t.2.2.2 j hj⟩ (by rw [u 135 (by decide)]; exact e2) ?_ ?_ ?_
  · rw [up_at, if_neg (by decide), up_at, if_neg (by decide), up_at, if_neg (by decide)]; exact t.2.1
  · rw [up_at, if_neg (by decide), up_at, if_neg (by decide), up_at, if_pos rfl]
  · rw [up_at, if_neg (by decide), up_at, if_pos rfl]; exact e8
  · rw [up_at, if_pos rfl]
theorem r_text_ok {d : Nat} {dd : List (Nat × Nat)} {sh : Nat → Nat → Nat} {g : Nat → Nat → Int} {K : Int → (Nat → Nat → Int) → Prop} {a2 : Nat} (hx : x0 = 681 * a2) (h2 : g 135 2 = (a2 : Int)) (ha : a2 < 4) (hL : LT B n k st ln g) (hS : Seq (kdF B k st ln) (vlF B k st ln) N ts css kk vv ww CC) (hz : kdF B k st ln (ts N) = 0)
    (hK : ∀ g', TxG x0 g g' → g' 135 2 = (a2 : Int) + 1 → g' 134 5 = 0 → g' 134 6 = -1 → g' 134 4 = 0 → RwR g' x0 N css kk vv ww CC → K ((a2 : Int) + 1 - 1) g') : cI (d + 13) m_X12_text [vR 134] dd sh g K := by
  refine mkI (ls := [some (vR 134)]) rfl rfl rfl rfl rfl (r_X12_text_0 ?_)
  rw [h2]
  refine ⟨⟨by omega, by omega⟩, fun _ => ?_, fun h => absurd h (by omega)⟩
  refine r_readText (d := d) hx h2 ha hL hS (fun h => absurd hz h) (fun _ g' t e2 hRw => ⟨⟨by decide, by decide⟩, fun h => absurd rfl h, fun _ => ⟨fun _ => ?_, fun h => absurd rfl h⟩⟩)
  rw [e2]
  have u : ∀ q, q ≠ 134 → q ≠ 135 → up (up (up (up g' 134 5 0) 134 6 (-1)) 134 4 0) 135 2 ((a2 : Int) + 1) q = g' q := fun q hq h5 => by rw [up_off h5, up_off hq, up_off hq, up_off hq]
  have u5 : ∀ j, j ≠ 2 → up (up (up (up g' 134 5 0) 134 6 (-1)) 134 4 0) 135 2 ((a2 : Int) + 1) 135 j = g' 135 j := fun j hj => by rw [up_at, if_neg hj, up_off (by decide), up_off (by decide), up_off (by decide)]
  refine hK _ ⟨fun q a b c e => by rw [u q a b]; exact t.1 q a b c e, ?_, fun i hi => by rw [u 137 (by decide) (by decide)]; exact t.2.2.1 i hi, fun j hj => by rw [u5 j hj]; exact t.2.2.2 j hj⟩ ?_ ?_ ?_ ?_ ?_
  · rw [up_off (by decide), up_at, if_neg (by decide), up_at, if_neg (by decide), up_at, if_neg (by decide)]; exact t.2.1
  · rw [up_at, if_pos rfl]
  · rw [up_off (by decide), up_at, if_neg (by decide), up_at, if_neg (by decide), up_at, if_pos rfl]
  · rw [up_off (by decide), up_at, if_neg (by decide), up_at, if_pos rfl]
  · rw [up_off (by decide), up_at, if_pos rfl]
  · unfold RwR Cod at hRw ⊢
    rw [u 137 (by decide) (by decide)]
    exact hRw
end RW
