-- tokens: the class's cutting of the tape
/-- a byte's sort: blank, figure, letter, else -/
def cb (x : Int) : Nat := if x = 32 ∨ x = 10 then 0 else if 48 ≤ x ∧ x ≤ 57 then 1 else if (97 ≤ x ∧ x ≤ 122) ∨ (65 ≤ x ∧ x ≤ 90) then 2 else 3
theorem cb0 {x : Int} : cb x = 0 ↔ (x = 32 ∨ x = 10) := by unfold cb; split <;> (try split) <;> (try split) <;> omega
theorem cb1 {x : Int} : cb x = 1 ↔ (48 ≤ x ∧ x ≤ 57) := by unfold cb; split <;> (try split) <;> (try split) <;> omega
theorem cb2 {x : Int} : cb x = 2 ↔ ((97 ≤ x ∧ x ≤ 122) ∨ (65 ≤ x ∧ x ≤ 90)) := by unfold cb; split <;> (try split) <;> (try split) <;> omega
theorem cb_le (x : Int) : cb x ≤ 3 := by unfold cb; split <;> (try split) <;> (try split) <;> omega
set_option maxRecDepth 8000 in
theorem s_X8_isBlank {d : Nat} {dd : List (Nat × Nat)} {sh : Nat → Nat → Nat} {g : Nat → Nat → Int} {K : Int → (Nat → Nat → Int) → Prop} {v0 : Int} (h : i32 v0) (hK : cb v0 = 0 → K 1 g) (hK0 : cb v0 ≠ 0 → K 0 g) : cI (d + 1) m_X8_isBlank [(vI v0)] dd sh g K := by
  rw [ne_eq] at hK0
  rw [cb0] at hK hK0
  refine mkI (ls := [some (vI v0)]) rfl rfl rfl rfl rfl (r_X8_isBlank_0 ?_)
  repeat' (first
    | (refine imp_mk ?_; intro hh; first | contradiction | (exfalso; omega) | skip)
    | (exact hK (by omega))
    | (exact hK0 (by omega))
    | refine And.intro ?_ ?_
    | omega)
theorem s_X8_isDigit {d : Nat} {dd : List (Nat × Nat)} {sh : Nat → Nat → Nat} {g : Nat → Nat → Int} {K : Int → (Nat → Nat → Int) → Prop} {v0 : Int} (h : i32 v0) (hK : cb v0 = 1 → K 1 g) (hK0 : cb v0 ≠ 1 → K 0 g) : cI (d + 1) m_X8_isDigit [(vI v0)] dd sh g K := by
  rw [ne_eq] at hK0
  rw [cb1] at hK hK0
  refine mkI (ls := [some (vI v0)]) rfl rfl rfl rfl rfl (r_X8_isDigit_0 ?_)
  repeat' (first
    | (refine imp_mk ?_; intro hh; first | contradiction | (exfalso; omega) | skip)
    | (exact hK (by omega))
    | (exact hK0 (by omega))
    | refine And.intro ?_ ?_
    | omega)
set_option maxRecDepth 8000 in
theorem s_X8_isLetter {d : Nat} {dd : List (Nat × Nat)} {sh : Nat → Nat → Nat} {g : Nat → Nat → Int} {K : Int → (Nat → Nat → Int) → Prop} {v0 : Int} (h : i32 v0) (hK : cb v0 = 2 → K 1 g) (hK0 : cb v0 ≠ 2 → K 0 g) : cI (d + 1) m_X8_isLetter [(vI v0)] dd sh g K := by
  rw [ne_eq] at hK0
  rw [cb2] at hK hK0
  refine mkI (ls := [some (vI v0)]) rfl rfl rfl rfl rfl (r_X8_isLetter_0 ?_)
  repeat' (first
    | (refine imp_mk ?_; intro hh; first | contradiction | (exfalso; omega) | skip)
    | (exact hK (by omega))
    | (exact hK0 (by omega))
    | refine And.intro ?_ ?_
    | omega)
def gsOn (B : Nat → Int) (i : Nat) : Prop := 0 < i ∧ cb (B i) = cb (B (i - 1)) ∧ (cb (B i) = 1 ∨ cb (B i) = 2)
theorem s_X8_goesOn {d : Nat} {dd : List (Nat × Nat)} {sh : Nat → Nat → Nat} {g : Nat → Nat → Int} {K : Int → (Nat → Nat → Int) → Prop} {i : Nat} (hi : i < 300) (hb : ∀ j, j < 300 → i32 (g 103 j)) (hK : gsOn (g 103) i → K 1 g) (hK0 : ¬ gsOn (g 103) i → K 0 g) : cI (d + 2) m_X8_goesOn [(vR 102), (vI (i : Int))] dd sh g K := by
  unfold gsOn at hK hK0
  refine mkI (ls := [some (vR 102), some (vI ((i : Int))), none]) rfl rfl rfl rfl rfl (r_X8_goesOn_0 ?_)
  by_cases h0 : 0 < i
  · have a1 := hb i hi
    have a2 := hb (i - 1) (by omega)
    rw [show ((i : Int)).toNat = i from rfl, show ((i : Int) - 1).toNat = i - 1 by omega]
    refine ⟨⟨by omega, by omega⟩, fun _ => ⟨by omega, by omega, by omega, by omega, ?_⟩, fun h => absurd h (by omega)⟩
    have let2 : (cb (g 103 i) ≠ 1 ∨ cb (g 103 (i - 1)) ≠ 1) → cI (d + 1) m_X8_isLetter [(vI (g 103 i))] dd sh g (fun r13 g14 => (i32 r13) ∧ ((r13 = 0 → K 0 g14) ∧ (¬ r13 = 0 → cI (d + 1) m_X8_isLetter [(vI (g 103 (i - 1)))] dd sh g14 (fun r17 g18 => (i32 r17) ∧ ((r17 = 0 → K 0 g18) ∧ (¬ r17 = 0 → K 1 g18)))))) := fun hne => by
      refine s_X8_isLetter a1 (fun h2 => ⟨⟨by decide, by decide⟩, fun h => absurd h (by decide), fun _ => ?_⟩) (fun h2 => ⟨⟨by decide, by decide⟩, fun _ => hK0 (by omega), fun h => absurd rfl h⟩)
      exact s_X8_isLetter a2 (fun h3 => ⟨⟨by decide, by decide⟩, fun h => absurd h (by decide), fun _ => hK (by omega)⟩) (fun h3 => ⟨⟨by decide, by decide⟩, fun _ => hK0 (by omega), fun h => absurd rfl h⟩)
    refine s_X8_isDigit a1 (fun h1 => ⟨⟨by decide, by decide⟩, fun h => absurd h (by decide), fun _ => ?_⟩) (fun h1 => ⟨⟨by decide, by decide⟩, fun _ => let2 (Or.inl h1), fun h => absurd rfl h⟩)
    exact s_X8_isDigit a2 (fun h2 => ⟨⟨by decide, by decide⟩, fun _ => hK (by omega), fun h => absurd h (by decide)⟩) (fun h2 => ⟨⟨by decide, by decide⟩, fun h => absurd rfl h, fun _ => let2 (Or.inr h2)⟩)
  · exact ⟨⟨by omega, by omega⟩, fun h => absurd h (by omega), fun _ => hK0 (by omega)⟩
/-- the first k tokens of the first i bytes: where they start, how long they are -/
def LX (B : Nat → Int) (k i : Nat) (st ln : Nat → Nat) : Prop :=
  (∀ t, t < k → st t < i ∧ 1 ≤ ln t ∧ st t + ln t ≤ i ∧ cb (B (st t)) ≠ 0 ∧ (∀ j, st t ≤ j → j < st t + ln t → cb (B j) = cb (B (st t))) ∧ (cb (B (st t)) = 3 → ln t = 1) ∧ (cb (B (st t)) ≠ 3 → st t + ln t < i → cb (B (st t + ln t)) ≠ cb (B (st t)))) ∧
  (k = 0 → ∀ j, j < i → cb (B j) = 0) ∧ (0 < k → ∀ j, j < st 0 → cb (B j) = 0) ∧
  (∀ t, t + 1 < k → st t + ln t ≤ st (t + 1) ∧ ∀ j, st t + ln t ≤ j → j < st (t + 1) → cb (B j) = 0) ∧
  (0 < k → ∀ j, st (k - 1) + ln (k - 1) ≤ j → j < i → cb (B j) = 0) ∧ k ≤ i
theorem LX.zero (B : Nat → Int) (st ln : Nat → Nat) : LX B 0 0 st ln := ⟨fun t ht => absurd ht (by omega), fun _ j hj => absurd hj (by omega), fun h => absurd h (by omega), fun t ht => absurd ht (by omega), fun h => absurd h (by omega), Nat.le_refl _⟩
theorem LX.end_ {B : Nat → Int} {k i : Nat} {st ln : Nat → Nat} (h : LX B k i st ln) (hg : gsOn B i) : 0 < k ∧ st (k - 1) + ln (k - 1) = i ∧ cb (B i) = cb (B (st (k - 1))) := by
  obtain ⟨h1, h2, h3, h4, h5, h6⟩ := h
  obtain ⟨g1, g2, g3⟩ := hg
  have hk : 0 < k := by
    by_cases e : k = 0
    · have := h2 e (i - 1) (by omega); omega
    · omega
  obtain ⟨a1, a2, a3, a4, a5, a6, a7⟩ := h1 (k - 1) (by omega)
  have he : st (k - 1) + ln (k - 1) = i := by
    by_cases e : st (k - 1) + ln (k - 1) = i
    · exact e
    · have := h5 hk (i - 1) (by omega) (by omega); omega
  refine ⟨hk, he, ?_⟩
  have := a5 (i - 1) (by omega) (by omega)
  omega
theorem LX.more {B : Nat → Int} {k i : Nat} {st ln ln' : Nat → Nat} (h : LX B k i st ln) (hg : gsOn B i) (e : ∀ t, t ≠ k - 1 → ln' t = ln t) (e1 : ln' (k - 1) = ln (k - 1) + 1) : LX B k (i + 1) st ln' := by
  obtain ⟨hk, he, hc⟩ := h.end_ hg
  obtain ⟨h1, h2, h3, h4, h5, h6⟩ := h
  refine ⟨fun t ht => ?_, fun hz => absurd hz (by omega), h3, fun t ht => ?_, fun _ j hj1 hj2 => ?_, by omega⟩
  · obtain ⟨a1, a2, a3, a4, a5, a6, a7⟩ := h1 t ht
    by_cases et : t = k - 1
    · subst et
      rw [e1]
      refine ⟨by omega, by omega, by omega, a4, fun j hj1 hj2 => ?_, fun h => ?_, fun _ h => absurd h (by omega)⟩
      · by_cases ej : j = i
        · subst ej; exact hc
        · exact a5 j hj1 (by omega)
      · have := hg.2.2; omega
    · rw [e t et]
      have hn := (h4 t (by omega)).1
      have hl : st (t + 1) < i := (h1 (t + 1) (by omega)).1
      exact ⟨by omega, a2, by omega, a4, a5, a6, fun hh1 hh2 => a7 hh1 (by omega)⟩
  · rw [e t (by omega)]; exact h4 t ht
  · rw [e1] at hj1
    omega
theorem LX.blank {B : Nat → Int} {k i : Nat} {st ln : Nat → Nat} (h : LX B k i st ln) (hb : cb (B i) = 0) : LX B k (i + 1) st ln := by
  obtain ⟨h1, h2, h3, h4, h5, h6⟩ := h
  refine ⟨fun t ht => ?_, fun hz j hj => ?_, h3, h4, fun hk j hj1 hj2 => ?_, by omega⟩
  · obtain ⟨a1, a2, a3, a4, a5, a6, a7⟩ := h1 t ht
    refine ⟨by omega, a2, by omega, a4, a5, a6, fun hh1 hh2 => ?_⟩
    by_cases e : st t + ln t = i
    · rw [e, hb]; exact fun x => a4 x.symm
    · exact a7 hh1 (by omega)
  · by_cases e : j = i
    · subst e; exact hb
    · exact h2 hz j (by omega)
  · by_cases e : j = i
    · subst e; exact hb
    · exact h5 hk j hj1 (by omega)
theorem LX.start {B : Nat → Int} {k i : Nat} {st ln st' ln' : Nat → Nat} (h : LX B k i st ln) (hg : ¬ gsOn B i) (hb : cb (B i) ≠ 0) (es : ∀ t, t < k → st' t = st t) (es1 : st' k = i) (el : ∀ t, t < k → ln' t = ln t) (el1 : ln' k = 1) : LX B (k + 1) (i + 1) st' ln' := by
  obtain ⟨h1, h2, h3, h4, h5, h6⟩ := h
  refine ⟨fun t ht => ?_, fun hz => absurd hz (by omega), fun _ j hj => ?_, fun t ht => ?_, fun _ j hj1 hj2 => ?_, by omega⟩
  · by_cases et : t = k
    · subst et
      rw [es1, el1]
      refine ⟨by omega, by omega, by omega, hb, fun j hj1 hj2 => ?_, fun _ => rfl, fun _ h => absurd h (by omega)⟩
      obtain rfl : j = i := by omega
      rfl
    · rw [es t (by omega), el t (by omega)]
      obtain ⟨a1, a2, a3, a4, a5, a6, a7⟩ := h1 t (by omega)
      refine ⟨by omega, a2, by omega, a4, a5, a6, fun hh1 hh2 => ?_⟩
      by_cases e : st t + ln t = i
      · rw [e]
        intro hx
        have hp := a5 (i - 1) (by omega) (by omega)
        have hle := cb_le (B i)
        refine hg ⟨by omega, by omega, ?_⟩
        omega
      · exact a7 hh1 (by omega)
  · by_cases hk : k = 0
    · subst hk; rw [es1] at hj; exact h2 rfl j hj
    · rw [es 0 (by omega)] at hj; exact h3 (by omega) j hj
  · by_cases et : t + 1 = k
    · obtain ⟨a1, a2, a3, a4, a5, a6, a7⟩ := h1 t (by omega)
      rw [et, es1, es t (by omega), el t (by omega)]
      refine ⟨a3, fun j hj1 hj2 => ?_⟩
      have := h5 (by omega) j (by rw [show k - 1 = t by omega]; exact hj1) hj2
      exact this
    · rw [es t (by omega), el t (by omega), es (t + 1) (by omega)]
      exact h4 t (by omega)
  · rw [show k + 1 - 1 = k by omega, es1, el1] at hj1
    omega
/-- a number's value, a word, a sign -/
def nvF (B : Nat → Int) (s : Nat) : Nat → Int
  | 0 => 0
  | j + 1 => min (nvF B s j * 10 + B (s + j) - 48) 10000
def wd (B : Nat → Int) (s l : Nat) : List Int := (List.range l).map fun j => B (s + j)
def wkG (L : List Int) : Nat → Nat → Int
  | 0, _ => 1
  | f + 1, w => if sbytes w = L then 10 + (w : Int) else wkG L f (w + 1)
def mkF (x : Int) : Int := if x = 43 then 3 else if x = 45 then 4 else if x = 42 then 5 else if x = 47 then 6 else if x = 40 then 7 else if x = 41 then 8 else if x = 59 then 9 else 1
def tkd (B : Nat → Int) (s l : Nat) : Int := if cb (B s) = 1 then 2 else if cb (B s) = 2 then wkG (wd B s l) 23 0 else mkF (B s)
theorem nvF_b {B : Nat → Int} {s : Nat} : ∀ l, (∀ j, j < l → 48 ≤ B (s + j) ∧ B (s + j) ≤ 57) → 0 ≤ nvF B s l ∧ nvF B s l ≤ 10000 := by
  intro l
  induction l with
  | zero => intro _; exact ⟨show (0 : Int) ≤ 0 by decide, show (0 : Int) ≤ 10000 by decide⟩
  | succ l ih =>
    intro h
    have h1 := ih fun j hj => h j (by omega)
    have h2 := h l (by omega)
    unfold nvF
    omega
theorem s_X8_numberAt {d : Nat} {dd : List (Nat × Nat)} {sh : Nat → Nat → Nat} {g : Nat → Nat → Int} {K : Int → (Nat → Nat → Int) → Prop} {s l n : Nat} (hn : g 102 1 = (n : Int)) (hs : s + l ≤ n) (hn3 : n ≤ 300) (hb : ∀ j, j < l → 48 ≤ g 103 (s + j) ∧ g 103 (s + j) ≤ 57) (hK : K (nvF (g 103) s l) g) : cI (d + 2) m_X8_numberAt [(vR 102), (vI (s : Int)), (vI (l : Int))] dd sh g K := by
  refine mkI (ls := [some (vR 102), some (vI ((s : Int))), some (vI ((l : Int))), none, none]) rfl rfl rfl rfl rfl (r_X8_numberAt_0 ?_)
  refine loop (P := fun j => rI (d + 1) m_X8_numberAt 5 [some (vR 102), some (vI ((s : Int))), some (vI ((l : Int))), some (vI (nvF (g 103) s j)), some (vI (((s + j : Nat) : Int)))] [] dd sh g K) (n := l) ?_ ?_ 0 (by omega)
  · exact r_X8_numberAt_5 ⟨⟨by omega, by omega⟩, ⟨by omega, by omega⟩, fun _ => hK, fun h => absurd h (by omega)⟩
  · intro j hj ih
    have b := hb j hj
    have nb := nvF_b (B := g 103) (s := s) j fun i hi => hb i (by omega)
    refine r_X8_numberAt_5 ?_
    rw [hn, show (((s + j : Nat) : Int)).toNat = s + j from rfl]
    refine ⟨⟨by omega, by omega⟩, ⟨by omega, by omega⟩, fun h => absurd h (by omega), fun _ => ⟨⟨by omega, by omega⟩, fun h => absurd h (by omega), fun _ => ⟨by omega, by omega, ?_⟩⟩⟩
    refine s_J9_min ⟨by omega, by omega⟩ ⟨by decide, by decide⟩ fun r er => ?_
    rw [er]
    exact ih
theorem sb_ok : ∀ w : Nat, w < 23 → (1 ≤ (sbytes w).length ∧ (sbytes w).length ≤ 8) ∧ ∀ j : Nat, j < (sbytes w).length → iand ((sbytes w).getD j 0) 255 = (sbytes w).getD j 0 ∧ 97 ≤ (sbytes w).getD j 0 ∧ (sbytes w).getD j 0 ≤ 122 := by decide +kernel
theorem s_J0_length {d : Nat} {dd : List (Nat × Nat)} {sh : Nat → Nat → Nat} {g : Nat → Nat → Int} {K : Int → (Nat → Nat → Int) → Prop} {w : Nat} (hw : w < 23) (hK : K ((sbytes w).length : Int) g) : cI (d + 2) m_J0_length_8abf5 [(vZ (2 * w + 1))] dd sh g K := by
  have h := sb_ok w hw
  refine mkI (ls := [some (vZ (2 * w + 1))]) rfl rfl rfl rfl rfl (r_J0_length_8abf5_0 ⟨by omega, by omega, ?_⟩)
  refine mkI (ls := [some (vZ (2 * w + 1))]) rfl rfl rfl rfl rfl (r_J0_coder_7d493_0 ⟨by omega, by omega, ?_⟩)
  rw [show (2 * w + 1) / 2 = w by omega]
  refine ⟨⟨by omega, by omega⟩, by decide, by decide, ?_⟩
  rw [show (2 : Int) ^ (0 : Int).toNat = 1 from rfl, Int.ediv_one]
  exact hK
theorem s_J0_charAt {d : Nat} {dd : List (Nat × Nat)} {sh : Nat → Nat → Nat} {g : Nat → Nat → Int} {K : Int → (Nat → Nat → Int) → Prop} {w j : Nat} (hw : w < 23) (hj : j < (sbytes w).length) (hK : K ((sbytes w).getD j 0) g) : cI (d + 4) m_J0_charAt_5068e [(vZ (2 * w + 1)), (vI (j : Int))] dd sh g K := by
  have h := sb_ok w hw
  have hjj := h.2 j hj
  refine mkI (ls := [some (vZ (2 * w + 1)), some (vI (j : Int))]) rfl rfl rfl rfl rfl (r_J0_charAt_5068e_0 ⟨by omega, by omega, ?_⟩)
  refine mkI (ls := [some (vZ (2 * w + 1))]) rfl rfl rfl rfl rfl (r_J0_isLatin1_aae02_0 ⟨by omega, by omega, ⟨by decide, by decide⟩, fun h => absurd h (by decide), fun _ => ?_⟩)
  refine mkI (ls := [some (vZ (2 * w + 1 + 1)), some (vI (j : Int))]) rfl rfl rfl rfl rfl (r_J1_charAt_3b067_0 ⟨by omega, by omega, ?_⟩)
  rw [show (2 * w + 1) / 2 = w by omega, show (2 * w + 1 + 1) / 2 - 1 = w by omega, show ((j : Int)).toNat = j from rfl, hjj.1]
  refine mkV (ls := [some (vI (j : Int)), some (vI ((sbytes w).length : Int))]) rfl rfl rfl rfl rfl (r_J0_checkIndex_df160_0 ?_ ?_)
  · refine mkI (ls := [some (vI (j : Int)), some (vI ((sbytes w).length : Int)), some (vZ 100)]) rfl rfl rfl rfl rfl (r_J3_checkIndex_8e157_0 ?_)
    exact ⟨⟨by omega, by omega⟩, fun h => absurd h (by omega), fun _ => ⟨⟨by omega, by omega⟩, fun _ => ⟨by omega, by omega, by omega, by omega, by omega, by omega, by omega, by omega, by omega, hK⟩, fun h => absurd h (by omega)⟩⟩
  · refine mkI (ls := [some (vI (j : Int)), some (vI ((sbytes w).length : Int)), some (vR 0)]) rfl rfl rfl rfl rfl (r_J3_checkIndex_8e157_0 ?_)
    exact ⟨⟨by omega, by omega⟩, fun h => absurd h (by omega), fun _ => ⟨⟨by omega, by omega⟩, fun _ => ⟨by omega, by omega, by omega, by omega, by omega, by omega, by omega, by omega, by omega, hK⟩, fun h => absurd h (by omega)⟩⟩
theorem wd_len (B : Nat → Int) (s l : Nat) : (wd B s l).length = l := by unfold wd; rw [List.length_map, List.length_range]
theorem wd_at {B : Nat → Int} {s l j : Nat} (h : j < l) : (wd B s l).getD j 0 = B (s + j) := by
  unfold wd
  rw [List.getD_eq_getElem?_getD, List.getElem?_map, List.getElem?_range h]; rfl
theorem list_ext {L M : List Int} (h : L.length = M.length) (e : ∀ j, j < L.length → L.getD j 0 = M.getD j 0) : L = M := by
  apply List.ext_getElem h
  intro i h1 h2
  have := e i h1
  rw [List.getD_eq_getElem?_getD, List.getD_eq_getElem?_getD, List.getElem?_eq_getElem h1, List.getElem?_eq_getElem h2] at this
  exact this
theorem s_X8_isWord {d : Nat} {dd : List (Nat × Nat)} {sh : Nat → Nat → Nat} {g : Nat → Nat → Int} {K : Int → (Nat → Nat → Int) → Prop} {w s l n : Nat} (hw : w < 23) (hn : g 102 1 = (n : Int)) (hs : s + l ≤ n) (hn3 : n ≤ 300) (hl : l ≤ 300) (hb : ∀ j, j < 300 → i32 (g 103 j)) (hK : sbytes w = wd (g 103) s l → K 1 g) (hK0 : sbytes w ≠ wd (g 103) s l → K 0 g) : cI (d + 5) m_X8_isWord [(vR 102), (vZ (2 * w + 1)), (vI (s : Int)), (vI (l : Int))] dd sh g K := by
  have h := sb_ok w hw
  refine mkI (ls := [some (vR 102), some (vZ (2 * w + 1)), some (vI (s : Int)), some (vI (l : Int)), none]) rfl rfl rfl rfl rfl (r_X8_isWord_0 ⟨by omega, by omega, ?_⟩)
  refine s_J0_length (d := d + 2) hw ⟨⟨by omega, by omega⟩, ⟨by omega, by omega⟩, fun e => ?_, fun e => hK0 fun x => e (by rw [x, wd_len])⟩
  have el : (sbytes w).length = l := by omega
  refine loop (P := fun j => (∀ i, i < j → (sbytes w).getD i 0 = g 103 (s + i)) → rI (d + 4) m_X8_isWord 13 [some (vR 102), some (vZ (2 * w + 1)), some (vI (s : Int)), none, some (vI (j : Int))] [] dd sh g K) (n := l) ?_ ?_ 0 (by omega) (fun i hi => absurd hi (by omega))
  · intro hall
    refine r_X8_isWord_13 ⟨by omega, by omega, ?_⟩
    refine s_J0_length (d := d + 2) hw ⟨⟨by omega, by omega⟩, ⟨by omega, by omega⟩, fun _ => ?_, fun h => absurd h (by omega)⟩
    refine hK (list_ext (by rw [wd_len, el]) fun j hj => ?_)
    rw [wd_at (by omega)]
    exact hall j (by omega)
  · intro j hj ih hall
    have hjj := h.2 j (by omega)
    refine r_X8_isWord_13 ⟨by omega, by omega, ?_⟩
    refine s_J0_length (d := d + 2) hw ⟨⟨by omega, by omega⟩, ⟨by omega, by omega⟩, fun h => absurd h (by omega), fun _ => ⟨⟨by omega, by omega⟩, ⟨by omega, by omega⟩, fun h => absurd h (by omega), fun _ => ?_⟩⟩
    refine s_J0_charAt hw (by omega) ?_
    rw [show ((s : Int) + (j : Int)).toNat = s + j by omega]
    refine ⟨by omega, by omega, ⟨by omega, by omega⟩, hb _ (by omega), fun e2 => ?_, fun e2 => ?_⟩
    · refine ih fun i hi => ?_
      by_cases ei : i = j
      · subst ei; exact e2
      · exact hall i (by omega)
    · refine hK0 fun x => e2 ?_
      rw [x, wd_at hj]
theorem s_X8_wordKind {d : Nat} {dd : List (Nat × Nat)} {sh : Nat → Nat → Nat} {g : Nat → Nat → Int} {K : Int → (Nat → Nat → Int) → Prop} {s l n : Nat} (hn : g 102 1 = (n : Int)) (hs : s + l ≤ n) (hn3 : n ≤ 300) (hl : l ≤ 300) (hb : ∀ j, j < 300 → i32 (g 103 j)) (hK : K (wkG (wd (g 103) s l) 23 0) g) : cI (d + 6) m_X8_wordKind [(vR 102), (vI (s : Int)), (vI (l : Int))] dd sh g K := by
  refine mkI (ls := [some (vR 102), some (vI ((s : Int))), some (vI ((l : Int))), none]) rfl rfl rfl rfl rfl (r_X8_wordKind_0 ?_)
  refine loop (P := fun w => wkG (wd (g 103) s l) 23 0 = wkG (wd (g 103) s l) (23 - w) w → rI (d + 5) m_X8_wordKind 2 [some (vR 102), some (vI ((s : Int))), some (vI ((l : Int))), some (vI ((w : Int)))] [] dd sh g K) (n := 23) ?_ ?_ 0 (by omega) rfl
  · intro e
    rw [e] at hK
    exact r_X8_wordKind_2 ⟨⟨by decide, by decide⟩, fun _ => hK, fun h => absurd h (by decide)⟩
  · intro w hw ih e
    have e1 : 23 - w = (23 - (w + 1)) + 1 := by omega
    rw [e1, show wkG (wd (g 103) s l) ((23 - (w + 1)) + 1) w = if sbytes w = wd (g 103) s l then 10 + (w : Int) else wkG (wd (g 103) s l) (23 - (w + 1)) (w + 1) from rfl] at e
    refine r_X8_wordKind_2 ⟨⟨by omega, by omega⟩, fun h => absurd h (by omega), fun _ => ?_⟩
    have go : ∀ z, z = 2 * w + 1 → cI (d + 5) m_X8_isWord [(vR 102), (vZ z), (vI (s : Int)), (vI (l : Int))] dd sh g (fun r5 g6 => (i32 r5) ∧ ((r5 = 0 → rI (d + 5) m_X8_wordKind 2 [some (vR 102), some (vI ((s : Int))), some (vI ((l : Int))), some (vI (((w : Int) + 1)))] [] dd sh g6 K) ∧ (¬ r5 = 0 → K (10 + (w : Int)) g6))) := by
      intro z hz
      subst hz
      refine s_X8_isWord hw hn hs hn3 hl hb (fun h => ⟨⟨by decide, by decide⟩, fun h => absurd h (by decide), fun _ => ?_⟩) (fun h => ⟨⟨by decide, by decide⟩, fun _ => ?_, fun h => absurd rfl h⟩)
      · rw [if_pos h] at e
        rw [e] at hK
        exact hK
      · rw [if_neg h] at e
        exact ih e
    refine mkZ (ls := [some (vI ((w : Int)))]) rfl rfl rfl rfl rfl (r_X8_spelling_0 ?_)
    have hc : w = 0 ∨ w = 1 ∨ w = 2 ∨ w = 3 ∨ w = 4 ∨ w = 5 ∨ w = 6 ∨ w = 7 ∨ w = 8 ∨ w = 9 ∨ w = 10 ∨ w = 11 ∨ w = 12 ∨ w = 13 ∨ w = 14 ∨ w = 15 ∨ w = 16 ∨ w = 17 ∨ w = 18 ∨ w = 19 ∨ w = 20 ∨ w = 21 ∨ w = 22 := by omega
    exact ⟨⟨by omega, by omega⟩, fun h => absurd h (by omega), fun h => go _ (by omega), fun h => go _ (by omega), fun h => go _ (by omega), fun h => go _ (by omega), fun h => go _ (by omega), fun h => go _ (by omega), fun h => go _ (by omega), fun h => go _ (by omega), fun h => go _ (by omega), fun h => go _ (by omega), fun h => go _ (by omega), fun h => go _ (by omega), fun h => go _ (by omega), fun h => go _ (by omega), fun h => go _ (by omega), fun h => go _ (by omega), fun h => go _ (by omega), fun h => go _ (by omega), fun h => go _ (by omega), fun h => go _ (by omega), fun h => go _ (by omega), fun h => go _ (by omega), fun h => go _ (by omega)⟩
theorem s_X8_markKind {d : Nat} {dd : List (Nat × Nat)} {sh : Nat → Nat → Nat} {g : Nat → Nat → Int} {K : Int → (Nat → Nat → Int) → Prop} {v0 : Int} (h : i32 v0) (hK : K (mkF v0) g) : cI (d + 1) m_X8_markKind [(vI v0)] dd sh g K := by
  unfold mkF at hK
  refine mkI (ls := [some (vI v0)]) rfl rfl rfl rfl rfl (r_X8_markKind_0 ?_)
  refine ⟨h, ?_, ?_, ?_, ?_, ?_, ?_, ?_, ?_, ?_, ?_, ?_, ?_, ?_, ?_, ?_, ?_, ?_, ?_, ?_, ?_, ?_⟩
  all_goals (intro hx; repeat (first | rw [if_pos (by omega)] at hK | rw [if_neg (by omega)] at hK)
             exact hK)
/-- the class's tokens of the tape: k of them, the end behind -/
def TK (B : Nat → Int) (n : Nat) (k : Nat) (st ln : Nat → Nat) (kd tt vv : Nat → Int) : Prop :=
  LX B k n st ln ∧ (∀ t, t < k → kd t = tkd B (st t) (ln t) ∧ tt t = (st t : Int) ∧ (cb (B (st t)) = 1 → vv t = nvF B (st t) (ln t))) ∧ kd k = 0 ∧ tt k = (n : Int)
theorem wkG_b {L : List Int} : ∀ f w, f + w = 23 → 1 ≤ wkG L f w ∧ wkG L f w ≤ 32 := by
  intro f
  induction f with
  | zero => intro w _; exact ⟨show (1 : Int) ≤ 1 by decide, show (1 : Int) ≤ 32 by decide⟩
  | succ f ih =>
    intro w h
    have := ih (w + 1) (by omega)
    unfold wkG
    split
    · exact ⟨by omega, by omega⟩
    · exact this
theorem mkF_b (x : Int) : 1 ≤ mkF x ∧ mkF x ≤ 9 := by unfold mkF; repeat (first | (split; omega) | omega)
theorem tkd_b (B : Nat → Int) (s l : Nat) : 1 ≤ tkd B s l ∧ tkd B s l ≤ 32 := by
  have h1 := wkG_b (L := wd B s l) 23 0 (by decide)
  have h2 := mkF_b (B s)
  unfold tkd
  split
  · omega
  · split <;> omega
theorem s_X8_split {d : Nat} {dd : List (Nat × Nat)} {sh : Nat → Nat → Nat} {g : Nat → Nat → Int} {K : (Nat → Nat → Int) → Prop} {n : Nat} (hn : g 102 1 = (n : Int)) (hn3 : n ≤ 300) (hb : ∀ j, j < 300 → 0 ≤ g 103 j ∧ g 103 j ≤ 255) (hK : ∀ g' k st ln, (∀ q, q ≠ 102 → q ≠ 104 → q ≠ 105 → q ≠ 106 → q ≠ 107 → g' q = g q) → (∀ j, j ≠ 6 → g' 102 j = g 102 j) → g' 102 6 = ((k + 1 : Nat) : Int) → k ≤ n → TK (g 103) n k st ln (g' 104) (g' 105) (g' 107) → K g') : cV (d + 8) m_X8_split [(vR 102)] dd sh g K := by
  have hb' : ∀ j, j < 300 → i32 (g 103 j) := fun j hj => by have := hb j hj; exact ⟨by omega, by omega⟩
  refine mkV (ls := [some (vR 102), none]) rfl rfl rfl rfl rfl (r_X8_split_0 ?_)
  have fin : ∀ (k : Nat) (st ln : Nat → Nat) (g1 : Nat → Nat → Int), LX (g 103) k n st ln → (∀ q, q ≠ 102 → q ≠ 104 → q ≠ 105 → q ≠ 106 → q ≠ 107 → g1 q = g q) → (∀ j, j ≠ 6 → g1 102 j = g 102 j) → g1 102 6 = (k : Int) → (∀ t, t < k → g1 105 t = (st t : Int) ∧ g1 106 t = (ln t : Int)) → rV (d + 7) m_X8_split 73 [some (vR 102), some (vI 0)] [] dd sh g1 K := by
    intro k st ln g1 hL f1 f2 f3 f4
    have hk : k ≤ n := hL.2.2.2.2.2
    refine loop (P := fun t => ∀ g2, (∀ q, q ≠ 104 → q ≠ 107 → g2 q = g1 q) → (∀ j, j < t → g2 104 j = tkd (g 103) (st j) (ln j) ∧ (cb (g 103 (st j)) = 1 → g2 107 j = nvF (g 103) (st j) (ln j))) → rV (d + 7) m_X8_split 73 [some (vR 102), some (vI ((t : Int)))] [] dd sh g2 K) (n := k) ?_ ?_ 0 (by omega) g1 (fun _ _ _ => rfl) (fun j hj => absurd hj (by omega))
    · intro g2 e1 e2
      refine r_X8_split_73 ?_
      rw [e1 102 (by decide) (by decide), f3]
      refine ⟨⟨by omega, by omega⟩, ⟨by omega, by omega⟩, fun _ => ?_, fun h => absurd h (by omega)⟩
      rw [f2 1 (by decide), hn]
      refine mkV (ls := [some (vR 102), some (vI ((n : Int)))]) rfl rfl rfl rfl rfl (r_X8_startToken_0 ?_)
      rw [e1 102 (by decide) (by decide), f3, show ((k : Int)).toNat = k from rfl]
      refine ⟨⟨by omega, by omega⟩, fun h => absurd h (by omega), fun _ => ⟨by omega, by omega, ?_⟩⟩
      refine hK _ k st ln (fun q q1 q2 q3 q4 q5 => ?_) (fun j hj => ?_) ?_ hk ⟨hL, fun t ht => ⟨?_, ?_, fun hc => ?_⟩, ?_, ?_⟩
      · rw [up_off q1, up_off q5, up_off q4, up_off q3, up_off q2, e1 q q2 q5]; exact f1 q q1 q2 q3 q4 q5
      · rw [up_at, if_neg hj, up_off (by decide), up_off (by decide), up_off (by decide), up_off (by decide), e1 102 (by decide) (by decide)]; exact f2 j hj
      · rw [up_at, if_pos rfl]; rfl
      · rw [up_off (by decide), up_off (by decide), up_off (by decide), up_off (by decide), up_at, if_neg (by omega)]; exact (e2 t ht).1
      · rw [up_off (by decide), up_off (by decide), up_off (by decide), up_at, if_neg (by omega), up_off (by decide), e1 105 (by decide) (by decide)]; exact (f4 t ht).1
      · rw [up_off (by decide), up_at, if_neg (by omega), up_off (by decide), up_off (by decide), up_off (by decide)]; exact (e2 t ht).2 hc
      · rw [up_off (by decide), up_off (by decide), up_off (by decide), up_off (by decide), up_at, if_pos rfl]
      · rw [up_off (by decide), up_off (by decide), up_off (by decide), up_at, if_pos rfl]
    · intro t ht ih g2 e1 e2
      obtain ⟨a1, a2, a3, a4, a5, a6, a7⟩ := hL.1 t ht
      have f4t := f4 t ht
      have e105 : g2 105 t = (st t : Int) := by rw [e1 105 (by decide) (by decide)]; exact f4t.1
      have e106 : g2 106 t = (ln t : Int) := by rw [e1 106 (by decide) (by decide)]; exact f4t.2
      have e103 : g2 103 = g 103 := by rw [e1 103 (by decide) (by decide)]; exact f1 103 (by decide) (by decide) (by decide) (by decide) (by decide)
      have e102 : g2 102 1 = (n : Int) := by rw [e1 102 (by decide) (by decide), f2 1 (by decide)]; exact hn
      refine r_X8_split_73 ?_
      rw [e1 102 (by decide) (by decide), f3]
      refine ⟨⟨by omega, by omega⟩, ⟨by omega, by omega⟩, fun h => absurd h (by omega), fun _ => ?_⟩
      refine mkV (ls := [some (vR 102), some (vI ((t : Int))), none]) rfl rfl rfl rfl rfl (r_X8_nameToken_0 ?_)
      rw [show ((t : Int)).toNat = t from rfl, e105, e103, show ((st t : Nat) : Int).toNat = st t from rfl]
      refine ⟨by omega, by omega, by omega, by omega, ?_⟩
      have next : ∀ g3, (∀ q, q ≠ 104 → q ≠ 107 → g3 q = g2 q) → (∀ j, j ≠ t → g3 104 j = g2 104 j ∧ g3 107 j = g2 107 j) → g3 104 t = tkd (g 103) (st t) (ln t) → (cb (g 103 (st t)) = 1 → g3 107 t = nvF (g 103) (st t) (ln t)) → rV (d + 7) m_X8_split 73 [some (vR 102), some (vI (((t : Int) + 1)))] [] dd sh g3 K := by
        intro g3 w1 w2 w3 w4
        refine ih g3 (fun q q1 q2 => by rw [w1 q q1 q2]; exact e1 q q1 q2) (fun j hj => ?_)
        by_cases e : j = t
        · subst e; exact ⟨w3, w4⟩
        · rw [(w2 j e).1, (w2 j e).2]; exact e2 j (by omega)
      have hi := hb' (st t) (by omega)
      refine s_X8_isDigit hi (fun h1 => ⟨⟨by decide, by decide⟩, fun h => absurd h (by decide), fun _ => ?_⟩) (fun h1 => ⟨⟨by decide, by decide⟩, fun _ => ?_, fun h => absurd rfl h⟩)
      · rw [e105, e106]
        refine s_X8_numberAt (d := d + 4) (g := up g2 104 t 2) (n := n) (by rw [up_off (by decide)]; exact e102) (by omega) hn3 (fun j hj => ?_) ?_
        · rw [up_off (by decide), e103]
          have := a5 (st t + j) (by omega) (by omega)
          rw [h1] at this
          exact cb1.mp this
        · rw [up_off (by decide), e103]
          refine next _ (fun q q1 q2 => by rw [up_off q2, up_off q1]) (fun j hj => ⟨by rw [up_off (by decide), up_at, if_neg hj], by rw [up_at, if_neg hj, up_off (by decide)]⟩) ?_ (fun _ => by rw [up_at, if_pos rfl])
          rw [up_off (by decide), up_at, if_pos rfl]
          unfold tkd
          rw [if_pos h1]
      · refine s_X8_isLetter hi (fun h2 => ⟨⟨by decide, by decide⟩, fun h => absurd h (by decide), fun _ => ?_⟩) (fun h2 => ⟨⟨by decide, by decide⟩, fun _ => ?_, fun h => absurd rfl h⟩)
        · rw [e105, e106]
          refine s_X8_wordKind (d := d) (n := n) e102 (by omega) hn3 (by omega) (by rw [e103]; exact hb') ?_
          rw [e103]
          refine next _ (fun q q1 q2 => by rw [up_off q1]) (fun j hj => ⟨by rw [up_at, if_neg hj], by rw [up_off (by decide)]⟩) ?_ (fun h => absurd h h1)
          rw [up_at, if_pos rfl]
          unfold tkd
          rw [if_neg h1, if_pos h2]
        · refine s_X8_markKind hi ?_
          refine next _ (fun q q1 q2 => by rw [up_off q1]) (fun j hj => ⟨by rw [up_at, if_neg hj], by rw [up_off (by decide)]⟩) ?_ (fun h => absurd h h1)
          rw [up_at, if_pos rfl]
          unfold tkd
          rw [if_neg h1, if_neg h2]
  refine loop (P := fun i => ∀ (k : Nat) (st ln : Nat → Nat) (g1 : Nat → Nat → Int), LX (g 103) k i st ln → (∀ q, q ≠ 102 → q ≠ 104 → q ≠ 105 → q ≠ 106 → q ≠ 107 → g1 q = g q) → (∀ j, j ≠ 6 → g1 102 j = g 102 j) → g1 102 6 = (k : Int) → (∀ t, t < k → g1 105 t = (st t : Int) ∧ g1 106 t = (ln t : Int)) → rV (d + 7) m_X8_split 7 [some (vR 102), some (vI ((i : Int)))] [] dd sh g1 K) (n := n) ?_ ?_ 0 (by omega) 0 (fun _ => 0) (fun _ => 0) _ (LX.zero _ _ _) (fun q q1 _ _ _ _ => up_off q1) (fun j hj => by rw [up_at, if_neg hj]) (by rw [up_at, if_pos rfl]; rfl) (fun t ht => absurd ht (by omega))
  · intro k st ln g1 hL f1 f2 f3 f4
    refine r_X8_split_7 ?_
    rw [f2 1 (by decide), hn]
    exact ⟨⟨by omega, by omega⟩, ⟨by omega, by omega⟩, fun _ => fin k st ln g1 hL f1 f2 f3 f4, fun h => absurd h (by omega)⟩
  · intro i hi ih k st ln g1 hL f1 f2 f3 f4
    have hki : k ≤ i := hL.2.2.2.2.2
    have e103 : g1 103 = g 103 := f1 103 (by decide) (by decide) (by decide) (by decide) (by decide)
    refine r_X8_split_7 ?_
    rw [f2 1 (by decide), hn, show ((i : Int)).toNat = i from rfl]
    refine ⟨⟨by omega, by omega⟩, ⟨by omega, by omega⟩, fun h => absurd h (by omega), fun _ => ?_⟩
    refine s_X8_goesOn (d := d + 5) (by omega) (by rw [e103]; exact hb') (fun hg => ⟨⟨by decide, by decide⟩, fun h => absurd h (by decide), fun _ => ?_⟩) (fun hg => ⟨⟨by decide, by decide⟩, fun _ => ⟨by omega, by omega, ?_⟩, fun h => absurd rfl h⟩)
    · rw [e103] at hg
      obtain ⟨hk0, hend, -⟩ := hL.end_ hg
      rw [f3]
      refine ⟨⟨by omega, by omega⟩, fun h => absurd h (by omega), fun _ => ⟨by omega, by omega, ?_⟩⟩
      rw [show ((k : Int) - 1).toNat = k - 1 by omega]
      refine ih k st (fun t => if t = k - 1 then ln t + 1 else ln t) _ (hL.more hg (fun t ht => if_neg ht) (if_pos rfl)) (fun q q1 q2 q3 q4 q5 => by rw [up_off q4]; exact f1 q q1 q2 q3 q4 q5) (fun j hj => by rw [up_off (by decide)]; exact f2 j hj) (by rw [up_off (by decide)]; exact f3) (fun t ht => ⟨by rw [up_off (by decide)]; exact (f4 t ht).1, ?_⟩)
      rw [up_at]
      by_cases e : t = k - 1
      · subst e
        rw [if_pos rfl, if_pos rfl, (f4 (k - 1) ht).2]; rfl
      · rw [if_neg e, if_neg e]; exact (f4 t ht).2
    · rw [e103] at hg
      rw [e103]
      refine s_X8_isBlank (hb' i (by omega)) (fun hb0 => ⟨⟨by decide, by decide⟩, fun _ => ih k st ln g1 (hL.blank hb0) f1 f2 f3 f4, fun h => absurd h (by decide)⟩) (fun hb0 => ⟨⟨by decide, by decide⟩, fun h => absurd rfl h, fun _ => ?_⟩)
      refine mkV (ls := [some (vR 102), some (vI ((i : Int)))]) rfl rfl rfl rfl rfl (r_X8_startToken_0 ?_)
      rw [f3, show ((k : Int)).toNat = k from rfl]
      refine ⟨⟨by omega, by omega⟩, fun h => absurd h (by omega), fun _ => ⟨by omega, by omega, ?_⟩⟩
      refine ih (k + 1) (fun t => if t = k then i else st t) (fun t => if t = k then 1 else ln t) _ (hL.start hg hb0 (fun t ht => if_neg (by omega)) (if_pos rfl) (fun t ht => if_neg (by omega)) (if_pos rfl)) (fun q q1 q2 q3 q4 q5 => by rw [up_off q1, up_off q5, up_off q4, up_off q3, up_off q2]; exact f1 q q1 q2 q3 q4 q5) (fun j hj => by rw [up_at, if_neg hj, up_off (by decide), up_off (by decide), up_off (by decide), up_off (by decide)]; exact f2 j hj) (by rw [up_at, if_pos rfl]; rfl) (fun t ht => ⟨?_, ?_⟩)
      · rw [up_off (by decide), up_off (by decide), up_off (by decide), up_at]
        by_cases e : t = k
        · rw [if_pos e, if_pos e]
        · rw [if_neg e, if_neg e, up_off (by decide)]; exact (f4 t (by omega)).1
      · rw [up_off (by decide), up_off (by decide), up_at]
        by_cases e : t = k
        · rw [if_pos e, if_pos e]; rfl
        · rw [if_neg e, if_neg e, up_off (by decide), up_off (by decide)]; exact (f4 t (by omega)).2
