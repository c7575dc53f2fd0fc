-- the class's reader of laws
section RD
variable {k : Nat} {kd vl sp : Nat → Int} {pays lw : Bool}
/-- the tokens lie on the tape -/
def TS (k : Nat) (kd vl sp : Nat → Int) (pays lw : Bool) (g : Nat → Nat → Int) : Prop :=
  g 102 6 = ((k + 1 : Nat) : Int) ∧ k ≤ 300 ∧ (∀ t, t ≤ k → g 104 t = kd t ∧ g 105 t = sp t) ∧ (∀ t, t ≤ k → kd t = 2 → g 107 t = vl t) ∧ (∀ t, 0 ≤ kd t ∧ kd t ≤ 32) ∧ (∀ t, kd t ≠ 0 → t < k) ∧ (∀ t, kd t = 2 → 0 ≤ vl t ∧ vl t ≤ 10000) ∧ (lw = true → 0 ≤ g 108 14 ∧ g 108 14 ≤ 2) ∧ (lw = true → (g 108 14 = 2 ↔ pays = true))
def RdF (g g' : Nat → Nat → Int) : Prop := (∀ q, q ≠ 108 → q ≠ 112 → g' q = g q) ∧ ∀ j, j ≠ 2 → j ≠ 3 → j ≠ 4 → j ≠ 5 → j ≠ 10 → j ≠ 15 → g' 108 j = g 108 j
theorem RdF.rf {g : Nat → Nat → Int} : RdF g g := ⟨fun _ _ _ => rfl, fun _ _ _ _ _ _ _ => rfl⟩
theorem RdF.tr {g g' g'' : Nat → Nat → Int} (h : RdF g g') (h' : RdF g' g'') : RdF g g'' := ⟨fun q a b => by rw [h'.1 q a b, h.1 q a b], fun j a b c d e f => by rw [h'.2 j a b c d e f, h.2 j a b c d e f]⟩
theorem TS.fr {g g' : Nat → Nat → Int} (h : TS k kd vl sp pays lw g) (f : RdF g g') : TS k kd vl sp pays lw g' := by
  unfold TS
  rw [f.1 102 (by decide) (by decide), f.1 104 (by decide) (by decide), f.1 105 (by decide) (by decide), f.1 107 (by decide) (by decide), f.2 14 (by decide) (by decide) (by decide) (by decide) (by decide) (by decide)]
  exact h
def Gd (k : Nat) (kd : Nat → Int) (g : Nat → Nat → Int) (t cs : Nat) (it : Bool) : Prop := g 108 5 = 0 ∧ g 108 3 = (t : Int) ∧ t ≤ k ∧ g 108 4 = kd t ∧ g 108 10 = (cs : Int) ∧ g 108 15 = (if it = true then 1 else 0)
def Bd (k : Nat) (kd : Nat → Int) (g : Nat → Nat → Int) (f p : Int) : Prop := g 108 5 = f ∧ (1 ≤ f ∧ f ≤ 7) ∧ g 108 2 = p ∧ (∃ u : Nat, u ≤ k ∧ g 108 3 = (u : Int) ∧ g 108 4 = kd u) ∧ (0 ≤ g 108 10 ∧ g 108 10 ≤ 300) ∧ (g 108 15 = 0 ∨ g 108 15 = 1)
def Aft (k : Nat) (kd sp : Nat → Int) (g g' : Nat → Nat → Int) (it : Bool) (cs : Nat) (r : LRes) : Prop := RdF g g' ∧ match r with
  | .inl (f, p) => Bd k kd g' f (sp p)
  | .inr (t', c) => Gd k kd g' t' (cs + c.length) it ∧ (∀ i, i < cs → g' 112 i = g 112 i) ∧ ∀ i, i < c.length → g' 112 (cs + i) = deedOf (c.getD i (0, 0)).1 * 10000 + (c.getD i (0, 0)).2
theorem g_goOn {d : Nat} {dd : List (Nat × Nat)} {sh : Nat → Nat → Nat} {g : Nat → Nat → Int} {K : (Nat → Nat → Int) → Prop} {t cs : Nat} {it : Bool} (hT : TS k kd vl sp pays lw g) (h : Gd k kd g t cs it) (ht : t < k) (hK : ∀ g', RdF g g' → g' 112 = g 112 → Gd k kd g' (t + 1) cs it → K g') : cV (d + 1) m_X6_goOn [(vR 108)] dd sh g K := by
  obtain ⟨h1, h2, h3, h4, h5, h6⟩ := h
  obtain ⟨a1, a2, a3, a4, a5, a6, a7, a8, a9⟩ := hT
  refine mkV (ls := [some (vR 108)]) rfl rfl rfl rfl rfl (r_X6_goOn_0 ?_)
  rw [h2, a1, show ((t : Int) + 1).toNat = t + 1 from rfl, (a3 (t + 1) (by omega)).1]
  refine ⟨⟨by omega, by omega⟩, ⟨by omega, by omega⟩, fun h => absurd h (by omega), fun _ => ⟨by omega, by omega, ?_⟩⟩
  refine hK _ ⟨fun q q1 _ => by rw [up_off q1, up_off q1], fun j j2 j3 j4 j5 j10 j15 => by rw [up_at, if_neg j4, up_at, if_neg j3]⟩ (by rw [up_off (by decide), up_off (by decide)]) ⟨?_, ?_, by omega, ?_, ?_, ?_⟩
  · rw [up_at, if_neg (by decide), up_at, if_neg (by decide)]; exact h1
  · rw [up_at, if_neg (by decide), up_at, if_pos rfl]; omega
  · rw [up_at, if_pos rfl]
  · rw [up_at, if_neg (by decide), up_at, if_neg (by decide)]; exact h5
  · rw [up_at, if_neg (by decide), up_at, if_neg (by decide)]; exact h6
theorem b_goOn {d : Nat} {dd : List (Nat × Nat)} {sh : Nat → Nat → Nat} {g : Nat → Nat → Int} {K : (Nat → Nat → Int) → Prop} {f p : Int} (hT : TS k kd vl sp pays lw g) (h : Bd k kd g f p) (hK : ∀ g', RdF g g' → Bd k kd g' f p → K g') : cV (d + 1) m_X6_goOn [(vR 108)] dd sh g K := by
  obtain ⟨h1, h2, h3, ⟨u, u1, u2, u3⟩, h5, h6⟩ := id h
  obtain ⟨a1, a2, a3, a4, a5, a6, a7, a8, a9⟩ := hT
  refine mkV (ls := [some (vR 108)]) rfl rfl rfl rfl rfl (r_X6_goOn_0 ?_)
  rw [u2, a1]
  refine ⟨⟨by omega, by omega⟩, ⟨by omega, by omega⟩, fun _ => hK g RdF.rf h, fun _ => ⟨by omega, by omega, ?_⟩⟩
  rw [show ((u : Int) + 1).toNat = u + 1 from rfl, (a3 (u + 1) (by omega)).1]
  refine hK _ ⟨fun q q1 _ => by rw [up_off q1, up_off q1], fun j j2 j3 j4 j5 j10 j15 => by rw [up_at, if_neg j4, up_at, if_neg j3]⟩ ⟨?_, h2, ?_, ⟨u + 1, by omega, ?_, ?_⟩, ?_, ?_⟩
  · rw [up_at, if_neg (by decide), up_at, if_neg (by decide)]; exact h1
  · rw [up_at, if_neg (by decide), up_at, if_neg (by decide)]; exact h3
  · rw [up_at, if_neg (by decide), up_at, if_pos rfl]; omega
  · rw [up_at, if_pos rfl]
  · rw [up_at, if_neg (by decide), up_at, if_neg (by decide)]; exact h5
  · rw [up_at, if_neg (by decide), up_at, if_neg (by decide)]; exact h6
theorem g_fail {d : Nat} {dd : List (Nat × Nat)} {sh : Nat → Nat → Nat} {g : Nat → Nat → Int} {K : (Nat → Nat → Int) → Prop} {t cs : Nat} {it : Bool} {f : Int} (hT : TS k kd vl sp pays lw g) (h : Gd k kd g t cs it) (hcs : cs ≤ 300) (hf : 1 ≤ f ∧ f ≤ 7) (hK : ∀ g', RdF g g' → Bd k kd g' f (sp t) → K g') : cV (d + 1) m_X6_fail [(vR 108), (vI f)] dd sh g K := by
  obtain ⟨h1, h2, h3, h4, h5, h6⟩ := h
  obtain ⟨a1, a2, a3, a4, a5, a6, a7, a8, a9⟩ := hT
  refine mkV (ls := [some (vR 108), some (vI f)]) rfl rfl rfl rfl rfl (r_X6_fail_0 ?_)
  rw [h1, h2, a1, show ((t : Int)).toNat = t from rfl, (a3 t h3).2]
  refine ⟨⟨by decide, by decide⟩, fun h => absurd rfl h, fun _ => ⟨⟨by omega, by omega⟩, fun h => absurd h (by omega), fun _ => ⟨⟨by omega, by omega⟩, fun h => absurd h (by omega), fun _ => ⟨by omega, by omega, ?_⟩⟩⟩⟩
  refine hK _ ⟨fun q q1 _ => by rw [up_off q1, up_off q1], fun j j2 j3 j4 j5 j10 j15 => by rw [up_at, if_neg j2, up_at, if_neg j5]⟩ ⟨?_, hf, ?_, ⟨t, h3, ?_, ?_⟩, ?_, ?_⟩
  · rw [up_at, if_neg (by decide), up_at, if_pos rfl]
  · rw [up_at, if_pos rfl]
  · rw [up_at, if_neg (by decide), up_at, if_neg (by decide)]; exact h2
  · rw [up_at, if_neg (by decide), up_at, if_neg (by decide)]; exact h4
  · rw [up_at, if_neg (by decide), up_at, if_neg (by decide), h5]; omega
  · rw [up_at, if_neg (by decide), up_at, if_neg (by decide), h6]
    split
    · exact Or.inr rfl
    · exact Or.inl rfl
theorem g_put {d : Nat} {dd : List (Nat × Nat)} {sh : Nat → Nat → Nat} {g : Nat → Nat → Int} {K : (Nat → Nat → Int) → Prop} {t cs : Nat} {it : Bool} {v1 v2 : Int} (h : Gd k kd g t cs it) (hv : -1 ≤ v1 ∧ v1 ≤ 8) (hcs : v1 ≠ -1 → cs < 300) (hK : v1 = -1 → K g) (hK1 : v1 ≠ -1 → ∀ g', RdF g g' → Gd k kd g' t (cs + 1) it → (∀ i, i ≠ cs → g' 112 i = g 112 i) → g' 112 cs = v1 * 10000 + v2 → K g') (hc3 : cs ≤ 300) : cV (d + 1) m_X6_put [(vR 108), (vI v1), (vI v2)] dd sh g K := by
  obtain ⟨h1, h2, h3, h4, h5, h6⟩ := h
  refine mkV (ls := [some (vR 108), some (vI v1), some (vI v2)]) rfl rfl rfl rfl rfl (r_X6_put_0 ?_)
  rw [h1, h5, show ((cs : Int)).toNat = cs from rfl]
  refine ⟨⟨by decide, by decide⟩, fun h => absurd rfl h, fun _ => ⟨⟨by omega, by omega⟩, hK, fun hne => ⟨⟨by omega, by omega⟩, fun h => absurd h (by have := hcs hne; omega), fun _ => ⟨by omega, by omega, ?_⟩⟩⟩⟩
  refine hK1 hne _ ⟨fun q q1 q2 => by rw [up_off q1, up_off q2], fun j j2 j3 j4 j5 j10 j15 => by rw [up_at, if_neg j10, up_off (by decide)]⟩ ⟨?_, ?_, h3, ?_, ?_, ?_⟩ (fun i hi => by rw [up_off (by decide), up_at, if_neg hi]) (by rw [up_off (by decide), up_at, if_pos rfl])
  · rw [up_at, if_neg (by decide), up_off (by decide)]; exact h1
  · rw [up_at, if_neg (by decide), up_off (by decide)]; exact h2
  · rw [up_at, if_neg (by decide), up_off (by decide)]; exact h4
  · rw [up_at, if_pos rfl]; omega
  · rw [up_at, if_neg (by decide), up_off (by decide)]; exact h6
theorem b_put {d : Nat} {dd : List (Nat × Nat)} {sh : Nat → Nat → Nat} {g : Nat → Nat → Int} {K : (Nat → Nat → Int) → Prop} {f p v1 v2 : Int} (h : Bd k kd g f p) (hK : K g) : cV (d + 1) m_X6_put [(vR 108), (vI v1), (vI v2)] dd sh g K := by
  obtain ⟨h1, h2, h3, h4, h5, h6⟩ := h
  refine mkV (ls := [some (vR 108), some (vI v1), some (vI v2)]) rfl rfl rfl rfl rfl (r_X6_put_0 ?_)
  rw [h1]
  exact ⟨⟨by omega, by omega⟩, fun _ => hK, fun h => absurd h (by omega)⟩
theorem g_pass {d : Nat} {dd : List (Nat × Nat)} {sh : Nat → Nat → Nat} {g : Nat → Nat → Int} {K : (Nat → Nat → Int) → Prop} {t cs : Nat} {it : Bool} {w : Int} (hT : TS k kd vl sp pays lw g) (h : Gd k kd g t cs it) (hcs : cs ≤ 300) (hw : 1 ≤ w ∧ w ≤ 100) (hK : kd t = w → ∀ g', RdF g g' → g' 112 = g 112 → Gd k kd g' (t + 1) cs it → K g') (hK0 : kd t ≠ w → ∀ g', RdF g g' → Bd k kd g' 1 (sp t) → K g') : cV (d + 2) m_X6_pass [(vR 108), (vI w)] dd sh g K := by
  obtain ⟨h1, h2, h3, h4, h5, h6⟩ := id h
  have hk32 := hT.2.2.2.2.1 t
  refine mkV (ls := [some (vR 108), some (vI w)]) rfl rfl rfl rfl rfl (r_X6_pass_0 ?_)
  rw [h1, h4]
  refine ⟨⟨by decide, by decide⟩, fun _ => ⟨⟨by omega, by omega⟩, ⟨by omega, by omega⟩, fun e => ?_, fun e => ?_⟩, fun h => absurd rfl h⟩
  · exact g_goOn hT h (hT.2.2.2.2.2.1 t (by omega)) (hK e)
  · exact g_fail hT h hcs ⟨by decide, by decide⟩ (hK0 e)
theorem b_pass {d : Nat} {dd : List (Nat × Nat)} {sh : Nat → Nat → Nat} {g : Nat → Nat → Int} {K : (Nat → Nat → Int) → Prop} {f p w : Int} (h : Bd k kd g f p) (hK : K g) : cV (d + 2) m_X6_pass [(vR 108), (vI w)] dd sh g K := by
  obtain ⟨h1, h2, h3, h4, h5, h6⟩ := h
  refine mkV (ls := [some (vR 108), some (vI w)]) rfl rfl rfl rfl rfl (r_X6_pass_0 ?_)
  rw [h1]
  exact ⟨⟨by omega, by omega⟩, fun h => absurd h (by omega), fun _ => hK⟩
theorem g_readNumber {d : Nat} {dd : List (Nat × Nat)} {sh : Nat → Nat → Nat} {g : Nat → Nat → Int} {K : Int → (Nat → Nat → Int) → Prop} {t cs : Nat} {it : Bool} {a b : Int} (hT : TS k kd vl sp pays lw g) (h : Gd k kd g t cs it) (hcs : cs ≤ 300) (ha : 0 ≤ a ∧ a ≤ 100000) (hb : 0 ≤ b ∧ b ≤ 100000) (hK : kd t = 2 → a ≤ vl t → vl t ≤ b → ∀ g', RdF g g' → g' 112 = g 112 → Gd k kd g' (t + 1) cs it → K (vl t) g') (hK2 : kd t = 2 → (vl t < a ∨ b < vl t) → ∀ v g', RdF g g' → Bd k kd g' 2 (sp t) → K v g') (hK1 : kd t ≠ 2 → ∀ v g', RdF g g' → Bd k kd g' 1 (sp t) → K v g') : cI (d + 2) m_X6_readNumber [(vR 108), (vI a), (vI b)] dd sh g K := by
  obtain ⟨h1, h2, h3, h4, h5, h6⟩ := id h
  obtain ⟨a1, a2, a3, a4, a5, a6, a7, a8, a9⟩ := id hT
  have hk32 := a5 t
  refine mkI (ls := [some (vR 108), some (vI a), some (vI b), none]) rfl rfl rfl rfl rfl (r_X6_readNumber_0 ?_)
  rw [h1, h2, h4, show ((t : Int)).toNat = t from rfl]
  refine ⟨⟨by decide, by decide⟩, fun _ => ⟨by omega, by omega, ⟨by omega, by omega⟩, fun e => ?_, fun e => g_fail hT h hcs ⟨by decide, by decide⟩ (hK1 e _)⟩, fun h => absurd rfl h⟩
  have hv := a7 t e
  rw [a4 t h3 e]
  refine ⟨⟨by omega, by omega⟩, ⟨by omega, by omega⟩, fun hlt => g_fail hT h hcs ⟨by decide, by decide⟩ (hK2 e (Or.inl hlt) _), fun hle => ⟨⟨by omega, by omega⟩, fun hle2 => g_goOn hT h (a6 t (by omega)) (hK e hle hle2), fun hlt => g_fail hT h hcs ⟨by decide, by decide⟩ (hK2 e (Or.inr hlt) _)⟩⟩
theorem b_readNumber {d : Nat} {dd : List (Nat × Nat)} {sh : Nat → Nat → Nat} {g : Nat → Nat → Int} {K : Int → (Nat → Nat → Int) → Prop} {f p a b : Int} (h : Bd k kd g f p) (hK : K 0 g) : cI (d + 1) m_X6_readNumber [(vR 108), (vI a), (vI b)] dd sh g K := by
  obtain ⟨h1, h2, h3, h4, h5, h6⟩ := h
  refine mkI (ls := [some (vR 108), some (vI a), some (vI b), none]) rfl rfl rfl rfl rfl (r_X6_readNumber_0 ?_)
  rw [h1]
  exact ⟨⟨by omega, by omega⟩, fun h => absurd h (by omega), fun _ => hK⟩
theorem aft_one {g g1 g2 : Nat → Nat → Int} {t cs : Nat} {it : Bool} {a b : Int} (f1 : RdF g g2) (hG : Gd k kd g2 t (cs + 1) it) (hr : ∀ i, i ≠ cs → g2 112 i = g 112 i) (hv : g2 112 cs = deedOf a * 10000 + b) : Aft k kd sp g g2 it cs (.inr (t, [(a, b)])) :=
  ⟨f1, hG, fun i hi => hr i (by omega), fun i hi => by
    have : i = 0 := by simpa using hi
    subst this
    exact hv⟩
theorem c_readName {d : Nat} {dd : List (Nat × Nat)} {sh : Nat → Nat → Nat} {g : Nat → Nat → Int} {K : (Nat → Nat → Int) → Prop} {t cs w : Nat} {it : Bool} (hT : TS k kd vl sp pays true g) (h : Gd k kd g t cs it) (hcs : cs ≤ t) (hw : kd t = 20 + (w : Int)) (hw8 : w ≤ 8) (hK : ∀ g' r, Leaf kd vl pays it t r → Aft k kd sp g g' it cs r → K g') : cV (d + 2) m_X6_readName [(vR 108), (vI (10 + (w : Int)))] dd sh g K := by
  obtain ⟨h1, h2, h3, h4, h5, h6⟩ := id h
  obtain ⟨a1, a2, a3, a4, a5, a6, a7, a8, a9⟩ := id hT
  have a8 := a8 rfl
  have a9 := a9 rfl
  have htk := a6 t (by omega)
  have ok : ¬ no5 w pays it → cV (d + 1) m_X6_put [(vR 108), (vI 1), (vI ((10 + (w : Int)) - 10))] dd sh g (fun g6 => cV (d + 1) m_X6_goOn [(vR 108)] dd sh g6 (fun g8 => K g8)) := fun hn => by
    refine g_put h (by decide) (fun _ => by omega) (fun h => absurd h (by decide)) (fun _ g1 f1 hG hr hv => ?_) (by omega)
    refine g_goOn (hT.fr f1) hG htk fun g2 f2 e2 hG2 => ?_
    refine hK g2 (.inr (t + 1, [(1, (w : Int))])) (Or.inr (Or.inr (Or.inr (Or.inl ⟨w, hw, hw8, hn, rfl⟩)))) ?_
    refine aft_one (g1 := g1) (f1.tr f2) hG2 (fun i hi => by rw [e2]; exact hr i hi) ?_
    rw [e2, hv, show deedOf 1 = 1 from rfl]; omega
  have no : no5 w pays it → cV (d + 1) m_X6_fail [(vR 108), (vI 5)] dd sh g (fun g16 => K g16) := fun hn => by
    refine g_fail hT h (by omega) ⟨by decide, by decide⟩ fun g1 f1 hB => ?_
    exact hK g1 (.inl (5, t)) (Or.inr (Or.inr (Or.inl ⟨w, hw, hw8, hn, rfl⟩))) ⟨f1, hB⟩
  have tail : ¬ (5 ≤ w ∧ w ≤ 7 ∧ pays = true) → ((¬ 10 + (w : Int) = 18 → cV (d + 1) m_X6_put [(vR 108), (vI 1), (vI ((10 + (w : Int)) - 10))] dd sh g (fun g6 => cV (d + 1) m_X6_goOn [(vR 108)] dd sh g6 (fun g8 => K g8))) ∧ (10 + (w : Int) = 18 → (i32 (g 108 15)) ∧ ((¬ g 108 15 = 0 → cV (d + 1) m_X6_put [(vR 108), (vI 1), (vI ((10 + (w : Int)) - 10))] dd sh g (fun g12 => cV (d + 1) m_X6_goOn [(vR 108)] dd sh g12 (fun g14 => K g14))) ∧ (g 108 15 = 0 → cV (d + 1) m_X6_fail [(vR 108), (vI 5)] dd sh g (fun g16 => K g16))))) := fun hn => by
    refine ⟨fun e => ok (fun x => ?_), fun e => ?_⟩
    · rcases x with x | x
      · exact hn x
      · omega
    · rw [h6]
      cases it
      · exact ⟨⟨by decide, by decide⟩, fun h => absurd rfl h, fun _ => no (Or.inr ⟨by omega, rfl⟩)⟩
      · refine ⟨⟨by decide, by decide⟩, fun _ => ok (fun x => ?_), fun h => absurd h (by decide)⟩
        rcases x with x | x
        · exact hn x
        · exact absurd x.2 (by decide)
  refine mkV (ls := [some (vR 108), some (vI ((10 + (w : Int)))), none]) rfl rfl rfl rfl rfl (r_X6_readName_0 ?_)
  refine ⟨⟨by omega, by omega⟩, fun hlt => tail fun x => by omega, fun hge => ⟨fun hlt => tail fun x => by omega, fun hle => ⟨⟨by omega, by omega⟩, fun e => no (Or.inl ⟨by omega, by omega, a9.mp e⟩), fun e => tail fun x => e (a9.mpr x.2.2)⟩⟩⟩
theorem c_readOne0 {d : Nat} {dd : List (Nat × Nat)} {sh : Nat → Nat → Nat} {g : Nat → Nat → Int} {K : (Nat → Nat → Int) → Prop} {t cs : Nat} {it : Bool} {v1 : Int} (hT : TS k kd vl sp pays true g) (h : Gd k kd g t cs it) (hcs : cs ≤ t) (hK : ∀ g' r, Leaf kd vl pays it t r → Aft k kd sp g g' it cs r → K g') (h98 : (kd t = 7 ∨ kd t = 4 ∨ kd t = 29) → rV (d + 2) m_X6_readOne 98 [some (vR 108), some (vI v1)] [] dd sh g K) : cV (d + 3) m_X6_readOne [(vR 108), (vI v1)] dd sh g K := by
  obtain ⟨h1, h2, h3, h4, h5, h6⟩ := id h
  obtain ⟨a1, a2, a3, a4, a5, a6, a7, a8, a9⟩ := id hT
  have hk32 := a5 t
  refine mkV (ls := [some (vR 108), some (vI v1)]) rfl rfl rfl rfl rfl (r_X6_readOne_0 ?_)
  rw [h1, h4]
  have bad : kd t ≠ 2 → ¬ (20 ≤ kd t ∧ kd t ≤ 28) → ((kd t = 7 → rV (d + 2) m_X6_readOne 98 [some (vR 108), some (vI v1)] [] dd sh g K) ∧ (¬ kd t = 7 → ((kd t = 4 → rV (d + 2) m_X6_readOne 98 [some (vR 108), some (vI v1)] [] dd sh g K) ∧ (¬ kd t = 4 → ((kd t = 29 → rV (d + 2) m_X6_readOne 98 [some (vR 108), some (vI v1)] [] dd sh g K) ∧ (¬ kd t = 29 → cV (d + 2) m_X6_fail [(vR 108), (vI 1)] dd sh g (fun g10 => rV (d + 2) m_X6_readOne 175 [none, none] [] dd sh g10 K))))))) := fun n2 nn => by
    refine ⟨fun e => h98 (Or.inl e), fun n7 => ⟨fun e => h98 (Or.inr (Or.inl e)), fun n4 => ⟨fun e => h98 (Or.inr (Or.inr e)), fun n29 => ?_⟩⟩⟩
    refine g_fail (d := d + 1) hT h (by omega) ⟨by decide, by decide⟩ fun g1 f1 hB => r_X6_readOne_175 ?_
    exact hK g1 (.inl (1, t)) (Or.inr (Or.inr (Or.inr (Or.inr ⟨n2, nn, n7, n4, n29, rfl⟩)))) ⟨f1, hB⟩
  refine ⟨⟨by decide, by decide⟩, fun _ => ⟨⟨by omega, by omega⟩, fun n2 => ⟨fun hlt => bad n2 (by omega), fun hge => ⟨fun hgt => bad n2 (by omega), fun hle => ?_⟩⟩, fun e => ?_⟩, fun h => absurd rfl h⟩
  · obtain ⟨w, hw⟩ := Int.eq_ofNat_of_zero_le (show 0 ≤ kd t - 20 by omega)
    rw [show kd t - 10 = 10 + (w : Int) by omega]
    exact c_readName (d := d) (w := w) hT h hcs (by omega) (by omega) fun g' r hl ha => r_X6_readOne_175 (hK g' r hl ha)
  · have hv := a7 t e
    refine g_readNumber (d := d) hT h (by omega) ⟨by decide, by decide⟩ ⟨by decide, by decide⟩ (fun _ h0 hle g1 f1 e1 hG => ?_) (fun _ hor v g1 f1 hB => ?_) (fun n2 => absurd e n2)
    · refine g_put (d := d + 1) hG (by decide) (fun _ => by have := a6 t (by omega); omega) (fun h => absurd h (by decide)) (fun _ g2 f2 hG2 hr hv2 => r_X6_readOne_175 ?_) (by omega)
      refine hK g2 (.inr (t + 1, [(0, vl t)])) (Or.inl ⟨e, hle, rfl⟩) ?_
      refine aft_one (g1 := g1) (f1.tr f2) hG2 (fun i hi => by rw [hr i hi, e1]) ?_
      rw [hv2]; rfl
    · refine b_put (d := d + 1) hB (r_X6_readOne_175 ?_)
      exact hK g1 (.inl (2, t)) (Or.inr (Or.inl ⟨e, by omega, rfl⟩)) ⟨f1, hB⟩
end RD
