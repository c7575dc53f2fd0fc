-- the reference's pile
theorem mk_iff {b : Int} : (mkF b = 3 ↔ b = 43) ∧ (mkF b = 4 ↔ b = 45) ∧ (mkF b = 5 ↔ b = 42) ∧ (mkF b = 6 ↔ b = 47) ∧ (mkF b = 7 ↔ b = 40) ∧ (mkF b = 8 ↔ b = 41) ∧ (mkF b = 9 ↔ b = 59) ∧ (mkF b ≠ 0 ∧ mkF b ≠ 2) := by
  unfold mkF
  repeat' (first | (split <;> omega) | (split) | omega)
section TKR
variable {B : Nat → Int} {n k : Nat} {st ln : Nat → Nat} {m : Nat → Int} {t : Nat}
theorem wk_no {L : List Int} : wkG L 23 0 = 1 ∨ 10 ≤ wkG L 23 0 := by
  have key : ∀ f w, wkG L f w = 1 ∨ 10 ≤ wkG L f w := by
    intro f
    induction f with
    | zero => intro w; exact Or.inl rfl
    | succ f ih =>
      intro w
      unfold wkG
      split
      · exact Or.inr (by omega)
      · exact ih (w + 1)
  exact key 23 0
theorem TkR.m9 (h : TkR B n k st ln m t) : (m 9 = 43 ↔ kdF B k st ln t = 3) ∧ (m 9 = 45 ↔ kdF B k st ln t = 4) ∧ (m 9 = 42 ↔ kdF B k st ln t = 5) ∧ (m 9 = 47 ↔ kdF B k st ln t = 6) ∧ (m 9 = 40 ↔ kdF B k st ln t = 7) ∧ (m 9 = 41 ↔ kdF B k st ln t = 8) ∧ (m 9 = 59 ↔ kdF B k st ln t = 9) ∧ (m 9 = 1 ↔ kdF B k st ln t = 2) ∧ (m 9 = 0 ↔ kdF B k st ln t = 0) := by
  rcases h with ⟨e, h, _⟩ | ⟨ht, h8, h⟩
  · have ek : kdF B k st ln t = 0 := if_neg (by omega)
    rw [h, ek]; omega
  · rcases h with ⟨hc, h, _⟩ | ⟨hc, h, h7, h11⟩ | ⟨hc, hm, h, _⟩ | ⟨hc, hm, h⟩
    · have ek : kdF B k st ln t = 2 := by unfold kdF tkd; rw [if_pos ht, if_pos hc]
      rw [h, ek]; omega
    · have ek : kdF B k st ln t = wkG (wd B (st t) (ln t)) 23 0 := by unfold kdF tkd; rw [if_pos ht, if_neg (by omega), if_pos hc]
      have := wk_no (L := wd B (st t) (ln t))
      rw [h, ek]; omega
    · have ek : kdF B k st ln t = mkF (B (st t)) := by unfold kdF tkd; rw [if_pos ht, if_neg (by omega), if_neg (by omega)]
      have hb : ¬ (48 ≤ B (st t) ∧ B (st t) ≤ 57) := fun x => by rw [cb1.mpr x] at hc; exact absurd hc (by decide)
      obtain ⟨m3, m4, m5, m6, m7, m8, m9, m0⟩ := mk_iff (b := B (st t))
      rw [h, ek, m3, m4, m5, m6, m7, m8, m9]
      have h1 : ¬ (B (st t) = 1) := fun x => by rw [x] at hm; exact hm (by decide)
      have h0 : ¬ (B (st t) = 0) := fun x => by rw [x] at hm; exact hm (by decide)
      omega
    · have ek : kdF B k st ln t = 1 := by unfold kdF tkd; rw [if_pos ht, if_neg (by omega), if_neg (by omega)]; exact hm
      unfold bad at h
      rw [ek]; omega
theorem TkR.place (h : TkR B n k st ln m t) : m 8 = ((stK n k st t : Nat) : Int) := by
  unfold stK
  rcases h with ⟨e, h, h8, _⟩ | ⟨ht, h8, h⟩
  · rw [if_neg (by omega)]; exact h8
  · rw [if_pos ht]; exact h8
theorem TkR.next (h : TkR B n k st ln m t) (hk : 2 ≤ kdF B k st ln t) : t < k ∧ m 7 = ((st t + ln t : Nat) : Int) := by
  rcases h with ⟨e, h, _⟩ | ⟨ht, h8, h⟩
  · have ek : kdF B k st ln t = 0 := if_neg (by omega)
    omega
  · refine ⟨ht, ?_⟩
    rcases h with ⟨hc, h, h7, _⟩ | ⟨hc, h, h7, h11⟩ | ⟨hc, hm, h, h7⟩ | ⟨hc, hm, h⟩
    · exact h7
    · exact h7
    · exact h7
    · have ek : kdF B k st ln t = 1 := by unfold kdF tkd; rw [if_pos ht, if_neg (by omega), if_neg (by omega)]; exact hm
      omega
theorem TkR.num (h : TkR B n k st ln m t) (hk : m 9 = 1) : (0 ≤ m 10 ∧ m 10 ≤ 999999) ∧ min (m 10) 10000 = vlF B k st ln t := by
  rcases h with ⟨e, h, _⟩ | ⟨ht, h8, h⟩
  · omega
  · rcases h with ⟨hc, h, h7, h10, h11⟩ | ⟨hc, h, h7, h11⟩ | ⟨hc, hm, h, h7⟩ | ⟨hc, hm, h⟩
    · exact ⟨h10, h11⟩
    · omega
    · rw [h] at hk; rw [hk] at hm; exact absurd (by decide) hm
    · unfold bad at h; omega
theorem TkR.fr {m' : Nat → Int} (h : TkR B n k st ln m t) (e : ∀ j, 7 ≤ j → j ≤ 11 → m' j = m j) : TkR B n k st ln m' t := by
  unfold TkR
  rw [e 7 (by decide) (by decide), e 8 (by decide) (by decide), e 9 (by decide) (by decide), e 10 (by decide) (by decide), e 11 (by decide) (by decide)]
  exact h
end TKR
def Pile (g : Nat → Nat → Int) (P : List Int) : Prop := (∀ i, i < P.length → g 139 i = P.getD (P.length - 1 - i) 0) ∧ ∀ x, x ∈ P → 2 ≤ x ∧ x ≤ 40
def Cod (g : Nat → Nat → Int) (x0 cs0 : Nat) (C : List (Int × Int)) : Prop := ∀ i, i < C.length → g 137 (x0 + 73 + 2 * (cs0 + i)) = (C.getD i (0, 0)).1 ∧ g 137 (x0 + 74 + 2 * (cs0 + i)) = (C.getD i (0, 0)).2
/-- pile, deeds -/
def Rf (x0 cs0 : Nat) (g : Nat → Nat → Int) (P : List Int) (C : List (Int × Int)) (op : Int) : Prop := (g 134 12 = (x0 : Int) ∧ x0 ≤ 2043) ∧ g 134 16 = (P.length : Int) ∧ Pile g P ∧ g 134 17 = op ∧ g 134 13 = ((cs0 + C.length : Nat) : Int) ∧ Cod g x0 cs0 C
/-- what reading a sum changes -/
def SuF (x0 cs0 : Nat) (g g' : Nat → Nat → Int) : Prop := (∀ q, q ≠ 134 → q ≠ 137 → q ≠ 139 → g' q = g q) ∧ (∀ j, (j < 7 ∨ 11 < j) → j ≠ 13 → j ≠ 16 → j ≠ 17 → j ≠ 18 → g' 134 j = g 134 j) ∧ ∀ i, (i < x0 + 73 + 2 * cs0 ∨ x0 + 681 ≤ i) → g' 137 i = g 137 i
theorem SuF.rf {x0 cs0 : Nat} {g : Nat → Nat → Int} : SuF x0 cs0 g g := ⟨fun _ _ _ _ => rfl, fun _ _ _ _ _ _ => rfl, fun _ _ => rfl⟩
theorem SuF.tr {x0 cs0 : Nat} {g g' g'' : Nat → Nat → Int} (h : SuF x0 cs0 g g') (h' : SuF x0 cs0 g' g'') : SuF x0 cs0 g g'' := ⟨fun q a b c => by rw [h'.1 q a b c, h.1 q a b c], fun j a b c d e => by rw [h'.2.1 j a b c d e, h.2.1 j a b c d e], fun i a => by rw [h'.2.2 i a, h.2.2 i a]⟩
theorem Pile.fr {g g' : Nat → Nat → Int} {P : List Int} (h : Pile g P) (e : ∀ i, i < P.length → g' 139 i = g 139 i) : Pile g' P := ⟨fun i hi => by rw [e i hi]; exact h.1 i hi, h.2⟩
theorem Pile.pop {g : Nat → Nat → Int} {x : Int} {P : List Int} (h : Pile g (x :: P)) : g 139 P.length = x ∧ Pile g P := by
  have l : (x :: P).length = P.length + 1 := rfl
  refine ⟨?_, fun i hi => ?_, fun y hy => h.2 y (List.mem_cons_of_mem _ hy)⟩
  · have := h.1 P.length (by omega)
    rw [this, l, show P.length + 1 - 1 - P.length = 0 by omega]; rfl
  · have := h.1 i (by omega)
    rw [this, l, show P.length + 1 - 1 - i = (P.length - 1 - i) + 1 by omega]; rfl
theorem Pile.push {g g' : Nat → Nat → Int} {x : Int} {P : List Int} (h : Pile g P) (hx : 2 ≤ x ∧ x ≤ 40) (e : ∀ i, i < P.length → g' 139 i = g 139 i) (e1 : g' 139 P.length = x) : Pile g' (x :: P) := by
  have l : (x :: P).length = P.length + 1 := rfl
  refine ⟨fun i hi => ?_, fun y hy => ?_⟩
  · by_cases ei : i = P.length
    · rw [ei, e1, l, show P.length + 1 - 1 - P.length = 0 by omega]; rfl
    · rw [e i (by omega), h.1 i (by omega), l, show P.length + 1 - 1 - i = (P.length - 1 - i) + 1 by omega]; rfl
  · rcases List.mem_cons.mp hy with a | a
    · rw [a]; exact hx
    · exact h.2 y a
theorem Pile.mem {g : Nat → Nat → Int} {P : List Int} (h : Pile g P) {x : Int} : x ∈ P ↔ ∃ i, i < P.length ∧ g 139 i = x := by
  constructor
  · intro hx
    obtain ⟨i, hi, e⟩ := List.mem_iff_getElem.mp hx
    refine ⟨P.length - 1 - i, by omega, ?_⟩
    rw [h.1 _ (by omega), show P.length - 1 - (P.length - 1 - i) = i by omega, List.getD_eq_getElem?_getD, List.getElem?_eq_getElem hi]
    exact e
  · intro ⟨i, hi, e⟩
    rw [h.1 i hi, List.getD_eq_getElem?_getD, List.getElem?_eq_getElem (show P.length - 1 - i < P.length by omega)] at e
    rw [← e]
    exact List.getElem_mem _
theorem Pile.bd {g : Nat → Nat → Int} {P : List Int} (h : Pile g P) {i : Nat} (hi : i < P.length) : 2 ≤ g 139 i ∧ g 139 i ≤ 40 := h.2 _ (h.mem.mpr ⟨i, hi, rfl⟩)
def rkF (o : Int) : Int := if 40 ≤ o then 0 else if o = 3 ∨ o = 2 then 3 else if 6 ≤ o then 2 else 1
theorem s_X12_rank {d : Nat} {dd : List (Nat × Nat)} {sh : Nat → Nat → Nat} {g : Nat → Nat → Int} {K : Int → (Nat → Nat → Int) → Prop} {o : Int} (h : i32 o) (hK : K (rkF o) g) : cI (d + 1) m_X12_rank [(vI o)] dd sh g K := by
  unfold rkF at hK
  refine mkI (ls := [some (vI o)]) rfl rfl rfl rfl rfl (r_X12_rank_0 ?_)
  refine ⟨h, fun h40 => ⟨fun h3 => ?_, fun h3 => ⟨fun h2 => ⟨fun h6 => ?_, fun h6 => ?_⟩, fun h2 => ?_⟩⟩, fun h40 => ?_⟩
  · rw [if_neg (by omega), if_pos (by omega)] at hK; exact hK
  · rw [if_neg (by omega), if_neg (by omega), if_neg (by omega)] at hK; exact hK
  · rw [if_neg (by omega), if_neg (by omega), if_pos (by omega)] at hK; exact hK
  · rw [if_neg (by omega), if_pos (by omega)] at hK; exact hK
  · rw [if_pos h40] at hK; exact hK
theorem rkF_b (o : Int) : 0 ≤ rkF o ∧ rkF o ≤ 3 := by unfold rkF; split <;> (try split) <;> (try split) <;> omega
theorem Cod.snoc {g g' : Nat → Nat → Int} {x0 cs0 : Nat} {C : List (Int × Int)} {a b : Int} (h : Cod g x0 cs0 C) (e : ∀ i, i < x0 + 73 + 2 * (cs0 + C.length) → g' 137 i = g 137 i) (e1 : g' 137 (x0 + 73 + 2 * (cs0 + C.length)) = a) (e2 : g' 137 (x0 + 74 + 2 * (cs0 + C.length)) = b) : Cod g' x0 cs0 (C ++ [(a, b)]) := fun i hi => by
  have l : (C ++ [(a, b)]).length = C.length + 1 := by simp
  by_cases ei : i < C.length
  · rw [getD_left ei, e _ (by omega), e _ (by omega)]; exact h i ei
  · have : i = C.length := by omega
    subst this
    have := getD_right (c := C) (c' := [(a, b)]) (i := 0)
    rw [Nat.add_zero] at this
    rw [this, e1, e2]
    exact ⟨rfl, rfl⟩
theorem s_X12_emit {d : Nat} {dd : List (Nat × Nat)} {sh : Nat → Nat → Nat} {g : Nat → Nat → Int} {K : (Nat → Nat → Int) → Prop} {x0 cs0 : Nat} {P : List Int} {C : List (Int × Int)} {op a b : Int} (h : Rf x0 cs0 g P C op) (hl : cs0 + C.length ≤ 303) (hK : ∀ g', SuF x0 cs0 g g' → (∀ q, q ≠ 134 → q ≠ 137 → g' q = g q) → (∀ j, j ≠ 13 → g' 134 j = g 134 j) → Rf x0 cs0 g' P (C ++ [(a, b)]) op → K g') : cV (d + 1) m_X12_emit [(vR 134), (vI a), (vI b)] dd sh g K := by
  obtain ⟨⟨h12, hx0⟩, h16, hP, h17, h13, hC⟩ := h
  refine mkV (ls := [some (vR 134), some (vI a), some (vI b)]) rfl rfl rfl rfl rfl (r_X12_emit_0 ?_)
  rw [h12, h13]
  have l : (C ++ [(a, b)]).length = C.length + 1 := by simp
  refine ⟨by omega, by omega, by omega, by omega, ?_⟩
  rw [show (((x0 : Int) + 73) + (2 * ((cs0 + C.length : Nat) : Int))).toNat = x0 + 73 + 2 * (cs0 + C.length) by omega, show ((((x0 : Int) + 73) + (2 * ((cs0 + C.length : Nat) : Int))) + 1).toNat = x0 + 74 + 2 * (cs0 + C.length) by omega]
  refine hK _ ⟨fun q q1 q2 _ => by rw [up_off q1, up_off q2, up_off q2], fun j _ j13 _ _ _ => by rw [up_at, if_neg j13, up_off (by decide), up_off (by decide)], fun i hi => by rw [up_off (by decide), up_at, if_neg (by omega), up_at, if_neg (by omega)]⟩ (fun q q1 q2 => by rw [up_off q1, up_off q2, up_off q2]) (fun j j13 => by rw [up_at, if_neg j13, up_off (by decide), up_off (by decide)]) ⟨⟨?_, hx0⟩, ?_, ?_, ?_, ?_, ?_⟩
  · rw [up_at, if_neg (by decide), up_off (by decide), up_off (by decide)]; exact h12
  · rw [up_at, if_neg (by decide), up_off (by decide), up_off (by decide)]; exact h16
  · exact hP.fr fun i _ => by rw [up_off (by decide), up_off (by decide), up_off (by decide)]
  · rw [up_at, if_neg (by decide), up_off (by decide), up_off (by decide)]; exact h17
  · rw [up_at, if_pos rfl, l]; omega
  · refine hC.snoc (fun i hi => ?_) ?_ ?_
    · rw [up_off (by decide), up_at, if_neg (by omega), up_at, if_neg (by omega)]
    · rw [up_off (by decide), up_at, if_neg (by omega), up_at, if_pos rfl]
    · rw [up_off (by decide), up_at, if_pos rfl]
def stl (least : Int) : List Int → List (Int × Int) → Int → List Int × List (Int × Int) × Int
  | [], C, op => ([], C, op)
  | x :: P, C, op => if least ≤ rkF x then stl least P (C ++ [(if x = 2 then 8 else x, 0)]) (if rkF x = 3 then op - 1 else op) else (x :: P, C, op)
/-- deeds on the pile -/
def npc : List Int → Nat
  | [] => 0
  | x :: P => npc P + (if x < 40 then 1 else 0)
theorem s_X12_settle {d : Nat} {dd : List (Nat × Nat)} {sh : Nat → Nat → Nat} {g : Nat → Nat → Int} {x0 cs0 : Nat} {least : Int} (hl : 1 ≤ least ∧ least ≤ 3) : ∀ (P : List Int) (C : List (Int × Int)) (op : Int) (g : Nat → Nat → Int) {K : (Nat → Nat → Int) → Prop}, Rf x0 cs0 g P C op → cs0 + C.length + npc P ≤ 303 → P.length ≤ 150 → (∀ g', SuF x0 cs0 g g' → (∀ j, j ≠ 13 → j ≠ 16 → j ≠ 17 → g' 134 j = g 134 j) → Rf x0 cs0 g' (stl least P C op).1 (stl least P C op).2.1 (stl least P C op).2.2 → K g') → rV (d + 1) m_X12_settle 0 [some (vR 134), some (vI least)] [] dd sh g K := by
  intro P
  induction P with
  | nil =>
    intro C op g K h _ _ hK
    refine r_X12_settle_0 ?_
    rw [h.2.1]
    exact ⟨⟨by decide, by decide⟩, fun _ => hK g SuF.rf (fun _ _ _ _ => rfl) h, fun h => absurd h (by decide)⟩
  | cons x P ih =>
    intro C op g K h hlen hP150 hK
    have l : (x :: P).length = P.length + 1 := rfl
    rw [l] at hP150
    have ln : npc (x :: P) = npc P + (if x < 40 then 1 else 0) := rfl
    rw [ln] at hlen
    obtain ⟨⟨h12, hx0⟩, h16, hP, h17, h13, hC⟩ := h
    obtain ⟨p1, p2⟩ := hP.pop
    have hx := hP.2 x (List.mem_cons_self ..)
    have hrk := rkF_b x
    rw [l] at h16
    have hi1 : (g 134 16 - 1).toNat = P.length := by omega
    refine r_X12_settle_0 ?_
    refine ⟨⟨by omega, by omega⟩, fun h => absurd h (by omega), fun _ => ⟨by omega, by omega, ?_⟩⟩
    rw [hi1, p1]
    refine s_X12_rank ⟨by omega, by omega⟩ ⟨⟨by omega, by omega⟩, ⟨by omega, by omega⟩, fun hlt => ?_, fun hge => ⟨by omega, by omega, ?_⟩⟩
    · have e : stl least (x :: P) C op = (x :: P, C, op) := if_neg (by omega)
      rw [e] at hK
      exact hK g SuF.rf (fun _ _ _ _ => rfl) ⟨⟨h12, hx0⟩, by rw [l]; exact h16, hP, h17, h13, hC⟩
    · rw [hi1, p1]
      have hx40 : x < 40 := by
        by_cases e40 : 40 ≤ x
        · have : rkF x = 0 := if_pos e40
          omega
        · omega
      rw [if_pos hx40] at hlen
      have e : stl least (x :: P) C op = stl least P (C ++ [(if x = 2 then 8 else x, 0)]) (if rkF x = 3 then op - 1 else op) := if_pos hge
      rw [e] at hK
      -- one off the pile, one deed more
      have pop : ∀ v, v = (if x = 2 then 8 else x) → cV (d + 1) m_X12_emit [(vR 134), (vI v), (vI 0)] dd sh (up g 134 16 ((g 134 16) - 1)) (fun g17 => (0 ≤ g17 134 16) ∧ (g17 134 16 < 160) ∧ cI (d + 1) m_X12_rank [(vI (g17 139 ((g17 134 16).toNat)))] dd sh g17 (fun r21 g22 => (i32 r21) ∧ ((¬ r21 = 3 → rV (d + 1) m_X12_settle 0 [some (vR 134), some (vI least)] [] dd sh g22 K) ∧ (r21 = 3 → rV (d + 1) m_X12_settle 0 [some (vR 134), some (vI least)] [] dd sh (up g22 134 17 ((g22 134 17) - 1)) K)))) := by
        intro v hv
        have hR : Rf x0 cs0 (up g 134 16 ((g 134 16) - 1)) P C op := ⟨⟨by rw [up_at, if_neg (by decide)]; exact h12, hx0⟩, by rw [up_at, if_pos rfl]; omega, p2.fr fun i _ => by rw [up_off (by decide)], by rw [up_at, if_neg (by decide)]; exact h17, by rw [up_at, if_neg (by decide)]; exact h13, fun i hi => by rw [up_off (by decide)]; exact hC i hi⟩
        refine s_X12_emit (d := d) hR (by omega) fun g1 f1 o1 j1 hR1 => ?_
        rw [← hv] at hK
        have hl1 : (C ++ [(v, (0 : Int))]).length = C.length + 1 := by simp
        have e16 : g1 134 16 = (P.length : Int) := hR1.2.1
        have e139 : g1 139 P.length = x := by rw [o1 139 (by decide) (by decide), up_off (by decide)]; exact p1
        rw [e16, show ((P.length : Int)).toNat = P.length from rfl, e139]
        have f01 : SuF x0 cs0 g g1 := ⟨fun q q1 q2 q3 => by rw [o1 q q1 q2, up_off q1], fun j ja j13 j16 j17 j18 => by rw [j1 j j13, up_at, if_neg j16], fun i hi => by rw [f1.2.2 i hi, up_off (by decide)]⟩
        refine ⟨by omega, by omega, s_X12_rank ⟨by omega, by omega⟩ ⟨⟨by omega, by omega⟩, fun n3 => ?_, fun e3 => ?_⟩⟩
        · rw [if_neg n3] at hK
          exact ih _ _ g1 hR1 (by omega) (by omega) fun g' f2 j2 hR2 => hK g' (f01.tr f2) (fun j a b c => by rw [j2 j a b c, j1 j a, up_at, if_neg b]) hR2
        · rw [if_pos e3] at hK
          have hR2 : Rf x0 cs0 (up g1 134 17 ((g1 134 17) - 1)) P (C ++ [(v, 0)]) (op - 1) := ⟨⟨by rw [up_at, if_neg (by decide)]; exact hR1.1.1, hx0⟩, by rw [up_at, if_neg (by decide)]; exact hR1.2.1, hR1.2.2.1.fr fun i _ => by rw [up_off (by decide)], by rw [up_at, if_pos rfl, hR1.2.2.2.1], by rw [up_at, if_neg (by decide)]; exact hR1.2.2.2.2.1, fun i hi => by rw [up_off (by decide)]; exact hR1.2.2.2.2.2 i hi⟩
          have f12 : SuF x0 cs0 g1 (up g1 134 17 ((g1 134 17) - 1)) := ⟨fun q q1 q2 q3 => up_off q1, fun j ja j13 j16 j17 j18 => by rw [up_at, if_neg j17], fun i hi => by rw [up_off (by decide)]⟩
          exact ih _ _ _ hR2 (by omega) (by omega) fun g' f2 j2 hR3 => hK g' (f01.tr (f12.tr f2)) (fun j a b c => by rw [j2 j a b c, up_at, if_neg c, j1 j a, up_at, if_neg b]) hR3
      exact ⟨⟨by omega, by omega⟩, fun n2 => pop _ (if_neg n2).symm, fun e2 => pop _ (if_pos e2).symm⟩
theorem c_settle {d : Nat} {dd : List (Nat × Nat)} {sh : Nat → Nat → Nat} {g : Nat → Nat → Int} {K : (Nat → Nat → Int) → Prop} {x0 cs0 : Nat} {least : Int} {P : List Int} {C : List (Int × Int)} {op : Int} (hl : 1 ≤ least ∧ least ≤ 3) (h : Rf x0 cs0 g P C op) (h3 : cs0 + C.length + npc P ≤ 303) (h150 : P.length ≤ 150) (hK : ∀ g', SuF x0 cs0 g g' → (∀ j, j ≠ 13 → j ≠ 16 → j ≠ 17 → g' 134 j = g 134 j) → Rf x0 cs0 g' (stl least P C op).1 (stl least P C op).2.1 (stl least P C op).2.2 → K g') : cV (d + 2) m_X12_settle [(vR 134), (vI least)] dd sh g K :=
  mkV (ls := [some (vR 134), some (vI least)]) rfl rfl rfl rfl rfl (s_X12_settle (g := fun _ _ => 0) hl P C op g h h3 h150 hK)
theorem s_X12_isTotalling {d : Nat} {dd : List (Nat × Nat)} {sh : Nat → Nat → Nat} {g : Nat → Nat → Int} {K : Int → (Nat → Nat → Int) → Prop} {x0 cs0 : Nat} {P : List Int} {C : List (Int × Int)} {op : Int} (h : Rf x0 cs0 g P C op) (h150 : P.length ≤ 150) (hK : 2 ∈ P → K 1 g) (hK0 : ¬ 2 ∈ P → K 0 g) : cI (d + 1) m_X12_isTotalling [(vR 134)] dd sh g K := by
  have h16 := h.2.1
  have hP := h.2.2.1
  rw [hP.mem] at hK hK0
  refine mkI (ls := [some (vR 134), none]) rfl rfl rfl rfl rfl (r_X12_isTotalling_0 ?_)
  refine loop (P := fun i => (∀ j, j < i → g 139 j ≠ 2) → rI d m_X12_isTotalling 2 [some (vR 134), some (vI ((i : Int)))] [] dd sh g K) (n := P.length) ?_ ?_ 0 (by omega) (fun j hj => absurd hj (by omega))
  · intro hall
    refine r_X12_isTotalling_2 ?_
    rw [h16]
    exact ⟨⟨by omega, by omega⟩, ⟨by omega, by omega⟩, fun _ => hK0 fun ⟨i, i1, i2⟩ => hall i i1 i2, fun h => absurd h (by omega)⟩
  · intro i hi ih hall
    have hb := hP.bd hi
    refine r_X12_isTotalling_2 ?_
    rw [h16, show ((i : Int)).toNat = i from rfl]
    refine ⟨⟨by omega, by omega⟩, ⟨by omega, by omega⟩, fun h => absurd h (by omega), fun _ => ⟨by omega, by omega, ⟨by omega, by omega⟩, fun hne => ih fun j hj => ?_, fun he => hK ⟨i, hi, he⟩⟩⟩
    by_cases e : j = i
    · subst e; exact hne
    · exact hall j (by omega)
theorem s_X12_isOpen {d : Nat} {dd : List (Nat × Nat)} {sh : Nat → Nat → Nat} {g : Nat → Nat → Int} {K : Int → (Nat → Nat → Int) → Prop} {x0 cs0 : Nat} {P : List Int} {C : List (Int × Int)} {op : Int} (h : Rf x0 cs0 g P C op) (h150 : P.length ≤ 150) (hK : (∃ x, x ∈ P ∧ 40 ≤ x) → K 1 g) (hK0 : ¬ (∃ x, x ∈ P ∧ 40 ≤ x) → K 0 g) : cI (d + 1) m_X12_isOpen [(vR 134)] dd sh g K := by
  have h16 := h.2.1
  have hP := h.2.2.1
  refine mkI (ls := [some (vR 134), none]) rfl rfl rfl rfl rfl (r_X12_isOpen_0 ?_)
  rw [h16]
  have key : ∀ i : Nat, i ≤ P.length → (∀ j, i ≤ j → j < P.length → g 139 j < 40) → rI d m_X12_isOpen 7 [some (vR 134), some (vI ((i : Int) - 1))] [] dd sh g K := by
    intro i
    induction i with
    | zero =>
      intro _ hall
      refine r_X12_isOpen_7 ⟨⟨by omega, by omega⟩, fun _ => ⟨fun _ => hK0 fun ⟨x, x1, x2⟩ => ?_, fun h => absurd h (by omega)⟩, fun h => absurd h (by omega)⟩
      obtain ⟨j, j1, j2⟩ := hP.mem.mp x1
      have := hall j (by omega) j1
      omega
    | succ i ih =>
      intro hi hall
      have hb := hP.bd (show i < P.length by omega)
      refine r_X12_isOpen_7 ?_
      rw [show (((i + 1 : Nat) : Int) - 1).toNat = i by omega]
      refine ⟨⟨by omega, by omega⟩, fun h => absurd h (by omega), fun _ => ⟨by omega, by omega, ⟨by omega, by omega⟩, fun h40 => ⟨fun h => absurd h (by omega), fun _ => hK ⟨_, hP.mem.mpr ⟨i, by omega, rfl⟩, h40⟩⟩, fun hlt => ?_⟩⟩
      have := ih (by omega) fun j j1 j2 => by
        by_cases e : j = i
        · subst e; exact hlt
        · exact hall j (by omega) j2
      rw [show (((i + 1 : Nat) : Int) - 1) + (-1) = (i : Int) - 1 by omega]
      exact this
  exact key P.length (Nat.le_refl _) fun j j1 j2 => by omega
