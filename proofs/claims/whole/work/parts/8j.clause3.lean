-- the reference's clause
section CR
variable {B : Nat → Int} {n k : Nat} {st ln : Nat → Nat} {pays : Bool} {x0 cs : Nat}
theorem m_summed {d : Nat} {dd : List (Nat × Nat)} {sh : Nat → Nat → Nat} {g : Nat → Nat → Int} {K : Int → (Nat → Nat → Int) → Prop} {t : Nat} {r : LRes} (hL : LT B n k st ln g) (hs : srtP pays g) (hT : TkR B n k st ln (g 134) t) (h12 : g 134 12 = (x0 : Int)) (hx0 : x0 ≤ 2043) (h13 : g 134 13 = (cs : Int)) (htk : t ≤ k) (hcs : cs ≤ t) (hr : SumR (OneR (kdF B k st ln) (vlF B k st ln) pays 8 false) (kdF B k st ln) 300 t [] (-1) (-1) r)
    (hbad : ∀ f p, r = .inl (f, p) → ∀ g', SuF x0 cs g g' → g' 134 8 = ((stK n k st p : Nat) : Int) → K f g') (hok : ∀ t' C, r = .inr (t', C) → ∀ g', SuF x0 cs g g' → LT B n k st ln g' → TkR B n k st ln (g' 134) t' → g' 134 13 = ((cs + C.length : Nat) : Int) → Cod g' x0 cs C → K 0 g') : cI (d + 8) m_X12_summed [(vR 134)] dd sh g K := by
  have hk3 := hL.k3
  refine mkI (ls := [some (vR 134), none]) rfl rfl rfl rfl rfl (r_X12_summed_0 ?_)
  have f0 : SuF x0 cs g (up (up (up g 134 16 0) 134 17 0) 134 18 0) := suf134 (fun q hq => by rw [up_off hq, up_off hq, up_off hq]) (fun j _ _ a b c => by rw [up_at, if_neg c, up_at, if_neg b, up_at, if_neg a])
  have hS : Sm B n k st ln pays x0 cs (up (up (up g 134 16 0) 134 17 0) 134 18 0) t [] [] 0 0 := by
    refine ⟨hL.fr f0, hs.fr f0, hT.fr fun j _ _ => by rw [up_at, if_neg (by omega), up_at, if_neg (by omega), up_at, if_neg (by omega)], ⟨⟨?_, hx0⟩, ?_, ⟨fun i hi => absurd hi (by simp), fun x hx => absurd hx (by simp)⟩, ?_, ?_, fun i hi => absurd hi (by simp)⟩, by rw [up_at, if_pos rfl]⟩
    · rw [up_at, if_neg (by decide), up_at, if_neg (by decide), up_at, if_neg (by decide)]; exact h12
    · rw [up_at, if_neg (by decide), up_at, if_neg (by decide), up_at, if_pos rfl]; rfl
    · rw [up_at, if_neg (by decide), up_at, if_pos rfl]
    · rw [up_at, if_neg (by decide), up_at, if_neg (by decide), up_at, if_neg (by decide)]; exact h13
  refine m_sum (m := 8) (d := d) (Nat.le_refl _) (m_one hk3 8 (Nat.le_refl _)) hk3 300 (Q := []) (C0 := []) (c := []) (s := -1) (p := -1) htk hr (Or.inl rfl) (Or.inl rfl) hS ⟨fun h => absurd h (by decide), fun h => absurd h (by simp)⟩ (Or.inl rfl) (by show cs + 0 + 0 + 0 + 0 + 0 ≤ t; omega) (by show 0 + 2 + 3 * 8 ≤ 26; decide) (fun f p e g' f' hp => hbad f p e g' (f0.tr f') hp) (fun t' c' e g2 p2 s2 c2 hs2 hp2 f2 hS2 hCe hb2 hkk htk2 => ?_)
  obtain ⟨hL2, hss2, hT2, hR2, hw2⟩ := id hS2
  have i9 := hT2.i9 hL2.2.2.1 hL2.2.1 hL2.2.2.2.2
  obtain ⟨m3, m4, m5, m6, m7, m8, m9, m1, m0⟩ := hT2.m9
  have lp2 := dd1_len p2
  have ls2 := dd1_len s2
  have hlen2 : (psl p2 ++ (psl s2 ++ ([] : List Int))).length ≤ 2 := by
    rw [List.length_append, List.length_append, psl_len, psl_len]
    show _ + (_ + 0) ≤ 2
    omega
  have hno : ¬ ∃ y, y ∈ psl p2 ++ (psl s2 ++ ([] : List Int)) ∧ (40 : Int) ≤ y := by
    rintro ⟨y, hy, hy40⟩
    have hb := hR2.2.2.1.2 y hy
    have : y = 40 := by omega
    subst this
    exact absurd ((mem_psl hs2 hp2 (Or.inr rfl)).mp hy) (by simp)
  have hnp2 : npc (psl p2 ++ (psl s2 ++ ([] : List Int))) = (psl p2).length + ((psl s2).length + 0) := by rw [npc_app, npc_app, npc_psl (by omega), npc_psl (by omega)]; rfl
  have hb3 : cs + 0 + c2.length + (psl p2).length + (psl s2).length + 0 ≤ t' := hb2
  refine r_X12_summed_15 ?_
  rw [hw2]
  refine ⟨⟨by decide, by decide⟩, fun h => absurd h (by decide), fun _ => ?_⟩
  refine mkI (ls := [some (vR 134), none]) rfl rfl rfl rfl rfl (r_X12_behindOne_0 ⟨⟨by omega, by omega⟩, fun n43 => ⟨fun n45 => ⟨fun n42 => ⟨fun n47 => ?_, fun e => absurd (m6.mp e) hkk.2.1⟩, fun e => absurd (m5.mp e) hkk.1⟩, fun e => absurd (m4.mp e) hkk.2.2.2⟩, fun e => absurd (m3.mp e) hkk.2.2.1⟩)
  refine s_X12_isOpen (d := d + 5) hR2 (by omega) (fun h => absurd h hno) (fun _ => ⟨⟨by decide, by decide⟩, fun _ => ⟨⟨by decide, by decide⟩, fun _ => ?_, fun h => absurd rfl h⟩, fun h => absurd rfl h⟩)
  refine s_X12_isOpen (d := d + 6) hR2 (by omega) (fun h => absurd h hno) (fun _ => ⟨⟨by decide, by decide⟩, fun _ => ?_, fun h => absurd rfl h⟩)
  refine c_settle (d := d + 5) (by decide) hR2 (by rw [hnp2, List.nil_append]; omega) (by omega) fun g3 f3 j3 hR3 => ?_
  rw [stl_ps (Or.inl rfl) hs2 hp2, hCe, List.nil_append] at hR3
  have hR3 : Rf x0 cs g3 [] c' 0 := hR3
  exact hok t' c' e g3 (f0.tr (f2.tr f3)) (hL2.fr f3) (hT2.fr fun j _ _ => j3 j (by omega) (by omega) (by omega)) hR3.2.2.2.2.1 hR3.2.2.2.2.2
/-- what a clause changes of the reference -/
def TxF (x0 : Nat) (g g' : Nat → Nat → Int) : Prop := (∀ q, q ≠ 134 → q ≠ 137 → q ≠ 139 → g' q = g q) ∧ (∀ j, j < 7 ∨ j = 12 ∨ 20 ≤ j → g' 134 j = g 134 j) ∧ ∀ i, (i < x0 ∨ x0 + 681 ≤ i) → g' 137 i = g 137 i
theorem TxF.rf {g : Nat → Nat → Int} : TxF x0 g g := ⟨fun _ _ _ _ => rfl, fun _ _ => rfl, fun _ _ => rfl⟩
theorem TxF.tr {g g' g'' : Nat → Nat → Int} (h : TxF x0 g g') (h' : TxF x0 g' g'') : TxF x0 g g'' := ⟨fun q a b c => by rw [h'.1 q a b c, h.1 q a b c], fun j a => by rw [h'.2.1 j a, h.2.1 j a], fun i a => by rw [h'.2.2 i a, h.2.2 i a]⟩
theorem SuF.txf {g g' : Nat → Nat → Int} (h : SuF x0 cs g g') : TxF x0 g g' := ⟨h.1, fun j hj => h.2.1 j (by omega) (by omega) (by omega) (by omega) (by omega), fun i hi => h.2.2 i (by omega)⟩
theorem LT.txf {g g' : Nat → Nat → Int} (h : LT B n k st ln g) (f : TxF x0 g g') : LT B n k st ln g' := by
  unfold LT
  rw [f.2.1 4 (by decide), f.1 138 (by decide) (by decide) (by decide)]
  exact h
/-- behind a figure -/
def FgF (x0 j : Nat) (g g' : Nat → Nat → Int) : Prop := (∀ q, q ≠ 134 → q ≠ 137 → g' q = g q) ∧ (∀ j, j < 7 ∨ 11 < j → g' 134 j = g 134 j) ∧ ∀ i, i ≠ j → g' 137 i = g 137 i
theorem FgF.txf {g g' : Nat → Nat → Int} {j : Nat} (h : FgF x0 j g g') (hj : x0 ≤ j ∧ j < x0 + 681) : TxF x0 g g' := ⟨fun q a b _ => h.1 q a b, fun j hj => h.2.1 j (by omega), fun i hi => h.2.2 i (by omega)⟩
theorem s_X12_figure {d : Nat} {dd : List (Nat × Nat)} {sh : Nat → Nat → Nat} {g : Nat → Nat → Int} {K : Int → (Nat → Nat → Int) → Prop} {t j : Nat} {lo hi : Int} (hL : LT B n k st ln g) (hT : TkR B n k st ln (g 134) t) (hj : j < 2724) (ha : 0 ≤ lo ∧ lo ≤ 9999) (hb : 0 ≤ hi ∧ hi ≤ 9999) (hok : Fig (kdF B k st ln) (vlF B k st ln) lo hi t 0 → ∀ g', FgF x0 j g g' → LT B n k st ln g' → TkR B n k st ln (g' 134) (t + 1) → g' 137 j = vlF B k st ln t → K 0 g') (hbad : ∀ f, Fig (kdF B k st ln) (vlF B k st ln) lo hi t f → f ≠ 0 → K f g) : cI (d + 3) m_X12_figure [(vR 134), (vI (j : Int)), (vI lo), (vI hi)] dd sh g K := by
  have i9 := hT.i9 hL.2.2.1 hL.2.1 hL.2.2.2.2
  obtain ⟨_, _, _, _, _, _, _, m1, _⟩ := hT.m9
  refine mkI (ls := [some (vR 134), some (vI (j : Int)), some (vI lo), some (vI hi)]) rfl rfl rfl rfl rfl (r_X12_figure_0 ⟨⟨by omega, by omega⟩, fun e1 => ?_, fun n1 => hbad 1 (Or.inl ⟨fun h => n1 (m1.mpr h), rfl⟩) (by decide)⟩)
  have ek := m1.mp e1
  obtain ⟨q1, q2⟩ := hT.num e1
  refine s_X12_isIn ⟨by omega, by omega⟩ ⟨by omega, by omega⟩ ⟨by omega, by omega⟩ (fun c1 c2 => ⟨⟨by decide, by decide⟩, fun _ => ⟨by omega, by omega, ?_⟩, fun h => absurd h (by decide)⟩) (fun c1 => ⟨⟨by decide, by decide⟩, fun h => absurd rfl h, fun _ => hbad 2 (Or.inr (Or.inl ⟨ek, by omega, rfl⟩)) (by decide)⟩)
  have ev : g 134 10 = vlF B k st ln t := by omega
  rw [ev, show ((j : Int)).toNat = j from rfl]
  have hL1 : LT B n k st ln (up g 137 j (vlF B k st ln t)) := by
    unfold LT
    rw [up_off (by decide), up_off (by decide)]; exact hL
  refine c_nextT (d := d) hL1 (hT.fr fun i _ _ => by rw [up_off (by decide)]) (by omega) fun g2 o2 j2 hT2 => ?_
  refine hok (Or.inr (Or.inr ⟨ek, by omega, by omega, rfl⟩)) g2 ⟨fun q a b => by rw [o2 q a, up_off b], fun i hi => by rw [j2 i hi, up_off (by decide)], fun i hi => by rw [o2 137 (by decide), up_at, if_neg hi]⟩ ?_ hT2 (by rw [o2 137 (by decide), up_at, if_pos rfl])
  unfold LT
  rw [j2 4 (by decide), o2 138 (by decide)]; exact hL1
theorem fig_det {kd vl : Nat → Int} {lo hi : Int} {t : Nat} {f f' : Int} (h : Fig kd vl lo hi t f) (h' : Fig kd vl lo hi t f') : f = f' := by
  rcases h with ⟨a, b⟩ | ⟨a, b, c⟩ | ⟨a, b, c, e⟩ <;> rcases h' with ⟨a', b'⟩ | ⟨a', b', c'⟩ | ⟨a', b', c', e'⟩ <;> omega
theorem s_X12_pair {d : Nat} {dd : List (Nat × Nat)} {sh : Nat → Nat → Nat} {g : Nat → Nat → Int} {K : Int → (Nat → Nat → Int) → Prop} {t j w : Nat} {c1 : Int} (hL : LT B n k st ln g) (hT : TkR B n k st ln (g 134) t) (hj : j + 2 < 2724) (hc : c1 = wco (if w = 5 then 22 else 21)) (hok : Fig (kdF B k st ln) (vlF B k st ln) 0 (mx1 w) t 0 → kdF B k st ln (t + 1) = btw w → Fig (kdF B k st ln) (vlF B k st ln) (lo2 w) (hi2 w) (t + 2) 0 → ∀ g', (∀ q, q ≠ 134 → q ≠ 137 → g' q = g q) → (∀ j, j < 7 ∨ 11 < j → g' 134 j = g 134 j) → (∀ i, i ≠ j + 1 → i ≠ j + 2 → g' 137 i = g 137 i) → LT B n k st ln g' → TkR B n k st ln (g' 134) (t + 3) → g' 137 (j + 1) = vlF B k st ln t → g' 137 (j + 2) = vlF B k st ln (t + 2) → K 0 g')
    (hbad : ∀ f p, ((Fig (kdF B k st ln) (vlF B k st ln) 0 (mx1 w) t f ∧ f ≠ 0 ∧ p = t) ∨ (Fig (kdF B k st ln) (vlF B k st ln) 0 (mx1 w) t 0 ∧ kdF B k st ln (t + 1) ≠ btw w ∧ f = 1 ∧ p = t + 1) ∨ (Fig (kdF B k st ln) (vlF B k st ln) 0 (mx1 w) t 0 ∧ kdF B k st ln (t + 1) = btw w ∧ Fig (kdF B k st ln) (vlF B k st ln) (lo2 w) (hi2 w) (t + 2) f ∧ f ≠ 0 ∧ p = t + 2)) → ∀ g', (∀ q, q ≠ 134 → q ≠ 137 → g' q = g q) → (∀ j, j < 7 ∨ 11 < j → g' 134 j = g 134 j) → (∀ i, i ≠ j + 1 → i ≠ j + 2 → g' 137 i = g 137 i) → g' 134 8 = ((stK n k st p : Nat) : Int) → K f g') : cI (d + 4) m_X12_pair [(vR 134), (vI (j : Int)), (vI (mx1 w)), (vL c1), (vI (lo2 w)), (vI (hi2 w))] dd sh g K := by
  have hm : 0 ≤ mx1 w ∧ mx1 w ≤ 9999 := by unfold mx1; split <;> decide
  have hl2 : 0 ≤ lo2 w ∧ lo2 w ≤ 9999 := by unfold lo2; split <;> decide
  have hh2 : 0 ≤ hi2 w ∧ hi2 w ≤ 9999 := by unfold hi2; split <;> decide
  have fi : ∀ {lo hi t f}, Fig (kdF B k st ln) (vlF B k st ln) lo hi t f → i32 f := fun h => by
    rcases h with ⟨_, h⟩ | ⟨_, _, h⟩ | ⟨_, _, _, h⟩ <;> (rw [h]; exact ⟨by decide, by decide⟩)
  have hw2 : ((if w = 5 then 22 else 21 : Nat) : Nat) < 23 ∧ (sbytes (if w = 5 then 22 else 21)).length ≤ 7 ∧ btw w = 10 + (((if w = 5 then 22 else 21 : Nat) : Nat) : Int) := by
    unfold btw
    by_cases e : w = 5
    · rw [if_pos e, if_pos e]; decide
    · rw [if_neg e, if_neg e]; decide
  refine mkI (ls := [some (vR 134), some (vI (j : Int)), some (vI (mx1 w)), some (vL c1), none, some (vI (lo2 w)), some (vI (hi2 w)), none]) rfl rfl rfl rfl rfl (r_X12_pair_0 ?_)
  rw [show ((j : Int) + 1) = ((j + 1 : Nat) : Int) by omega]
  refine s_X12_figure (d := d) (x0 := 0) hL hT (by omega) (by decide) hm (fun hf g1 f1 hL1 hT1 e1 => ⟨⟨by decide, by decide⟩, fun _ => ?_, fun h => absurd rfl h⟩) (fun f hf hne => ⟨fi hf, fun h => absurd h hne, fun _ => hbad f t (Or.inl ⟨hf, hne, rfl⟩) g (fun _ _ _ => rfl) (fun _ _ => rfl) (fun _ _ _ => rfl) hT.place⟩)
  refine s_X12_isWord (d := d + 2) (w := if w = 5 then 22 else 21) hL1.2.2.1 hL1.2.1 hL1.2.2.2.2 hT1 hw2.1 hw2.2.1 hc (fun hk1 => ⟨⟨by decide, by decide⟩, fun _ => ?_, fun h => absurd h (by decide)⟩) (fun hk1 => ⟨⟨by decide, by decide⟩, fun h => absurd rfl h, fun _ => hbad 1 (t + 1) (Or.inr (Or.inl ⟨hf, by rw [hw2.2.2]; exact hk1, rfl, rfl⟩)) g1 (fun q a b => f1.1 q a b) (fun i hi => f1.2.1 i hi) (fun i hi _ => f1.2.2 i hi) hT1.place⟩)
  have hkb : kdF B k st ln (t + 1) = btw w := by rw [hw2.2.2]; exact hk1
  refine c_nextT (d := d + 1) hL1 hT1 (by omega) fun g2 o2 j2 hT2 => ?_
  have hL2 : LT B n k st ln g2 := by
    unfold LT
    rw [j2 4 (by decide), o2 138 (by decide)]; exact hL1
  rw [show ((j : Int) + 2) = ((j + 2 : Nat) : Int) by omega]
  refine s_X12_figure (d := d) (x0 := 0) hL2 hT2 (by omega) hl2 hh2 (fun hf2 g3 f3 hL3 hT3 e3 => ?_) (fun f hf2 hne => ?_)
  · refine hok hf hkb hf2 g3 (fun q a b => by rw [f3.1 q a b, o2 q a, f1.1 q a b]) (fun i hi => by rw [f3.2.1 i hi, j2 i hi, f1.2.1 i hi]) (fun i h1 h2 => by rw [f3.2.2 i h2, o2 137 (by decide), f1.2.2 i h1]) hL3 hT3 (by rw [f3.2.2 _ (by omega), o2 137 (by decide)]; exact e1) e3
  · exact hbad f (t + 2) (Or.inr (Or.inr ⟨hf, hkb, hf2, hne, rfl⟩)) g2 (fun q a b => by rw [o2 q a, f1.1 q a b]) (fun i hi => by rw [j2 i hi, f1.2.1 i hi]) (fun i h1 h2 => by rw [o2 137 (by decide), f1.2.2 i h1]) hT2.place
/-- the reference behind a clause that stands -/
def AfR (x0 c cs : Nat) (g g' : Nat → Nat → Int) (kk : Nat) (v w : Int) (C : List (Int × Int)) : Prop :=
  (∀ i, ((x0 < i ∧ i < x0 + 1 + 3 * c) ∨ (x0 + 73 ≤ i ∧ i < x0 + 73 + 2 * cs)) → g' 137 i = g 137 i) ∧ g' 137 x0 = (c : Int) + 1 ∧ g' 137 (x0 + 1 + 3 * c) = (kk : Int) ∧ (3 ≤ kk → g' 137 (x0 + 2 + 3 * c) = v) ∧ (isTwo kk → g' 137 (x0 + 3 + 3 * c) = w) ∧ (kk ≤ 2 → g' 137 (x0 + 2 + 3 * c) = (cs : Int) ∧ g' 137 (x0 + 3 + 3 * c) = ((cs + C.length : Nat) : Int)) ∧ Cod g' x0 cs C ∧ g' 134 13 = ((cs + C.length : Nat) : Int) ∧ g' 134 19 = if kk ≤ 2 then ior (g 134 19) ((1 : Int) * 2 ^ kk) else g 134 19
end CR
