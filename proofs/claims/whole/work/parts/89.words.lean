-- words: the reference's tests by the class's kinds
def kdF (B : Nat → Int) (k : Nat) (st ln : Nat → Nat) (t : Nat) : Int := if t < k then tkd B (st t) (ln t) else 0
def vlF (B : Nat → Int) (k : Nat) (st ln : Nat → Nat) (t : Nat) : Int := nvF B (st t) (ln t)
theorem wkG_of : ∀ w : Nat, w < 23 → wkG (sbytes w) 23 0 = 10 + (w : Int) := by decide +kernel
theorem wkG_eq {L : List Int} {w : Nat} (hw : w < 23) : wkG L 23 0 = 10 + (w : Int) ↔ sbytes w = L := by
  constructor
  · have key : ∀ f v, f + v = 23 → wkG L f v = 10 + (w : Int) → sbytes w = L := by
      intro f
      induction f with
      | zero => intro v _ h; have h' : (1 : Int) = 10 + (w : Int) := h; omega
      | succ f ih =>
        intro v hv h
        unfold wkG at h
        split at h
        · next e =>
          have : v = w := by omega
          rw [← this]; exact e
        · exact ih (v + 1) (by omega) h
    exact key 23 0 (by decide)
  · intro h
    rw [← h]; exact wkG_of w hw
def wco (w : Nat) : Int := pq (fun j => (sbytes w).getD j 0) (sbytes w).length
theorem wco_b : ∀ w : Nat, w < 23 → (sbytes w).length ≤ 7 → 0 ≤ wco w ∧ wco w < 1152921504606846976 := by decide +kernel
theorem wd_eq {B : Nat → Int} {s l w : Nat} : sbytes w = wd B s l ↔ ((sbytes w).length = l ∧ ∀ j, j < l → (sbytes w).getD j 0 = B (s + j)) := by
  constructor
  · intro h
    refine ⟨by rw [h, wd_len], fun j hj => by rw [h, wd_at hj]⟩
  · intro ⟨h1, h2⟩
    refine list_ext (by rw [h1, wd_len]) fun j hj => ?_
    rw [wd_at (by omega)]
    exact h2 j (by omega)
theorem word_code {B : Nat → Int} {s l w : Nat} (hw : w < 23) (h7 : (sbytes w).length ≤ 7) (hl : ∀ j, j < l → 65 ≤ B (s + j) ∧ B (s + j) ≤ 122) : pkR (fun j => B (s + j)) l = wco w ↔ sbytes w = wd B s l := by
  have sb := sb_ok w hw
  rw [wd_eq]
  constructor
  · intro h
    have cbd := wco_b w hw h7
    by_cases e : l ≤ 7
    · have h' : pq (fun j => B (s + j)) l = pq (fun j => (sbytes w).getD j 0) (sbytes w).length := by rw [show pq (fun j => B (s + j)) l = pkR (fun j => B (s + j)) l from (if_pos e).symm, h]; rfl
      obtain ⟨i1, i2⟩ := pq_inj l _ (fun j hj => by have := hl j hj; show 1 ≤ B (s + j) ∧ B (s + j) ≤ 255; omega) (fun j hj => by have := (sb.2 j hj).2; show 1 ≤ (sbytes w).getD j 0 ∧ (sbytes w).getD j 0 ≤ 255; omega) h'
      exact ⟨i1.symm, fun j hj => (i2 j hj).symm⟩
    · rw [show pkR (fun j => B (s + j)) l = 1152921504606846976 from if_neg e] at h
      omega
  · intro ⟨h1, h2⟩
    have e : l ≤ 7 := by omega
    rw [show pkR (fun j => B (s + j)) l = pq (fun j => B (s + j)) l from if_pos e]
    unfold wco
    rw [h1]
    have key : ∀ i, i ≤ l → pq (fun j => B (s + j)) i = pq (fun j => (sbytes w).getD j 0) i := by
      intro i
      induction i with
      | zero => intro _; rfl
      | succ i ih =>
        intro hi
        show pq (fun j => B (s + j)) i * 256 + B (s + i) = pq (fun j => (sbytes w).getD j 0) i * 256 + (sbytes w).getD i 0
        rw [ih (by omega), h2 i (by omega)]
    exact key l (Nat.le_refl _)
section WD
variable {B : Nat → Int} {n k : Nat} {st ln : Nat → Nat} {m : Nat → Int} {t : Nat}
theorem LX.letters (hL : LX B k n st ln) (ht : t < k) (h2 : cb (B (st t)) = 2) : ∀ j, j < ln t → 65 ≤ B (st t + j) ∧ B (st t + j) ≤ 122 := fun j hj => by
  have hc := (hL.1 t ht).2.2.2.2.1 (st t + j) (by omega) (by omega)
  rw [h2] at hc
  have := cb2.mp hc
  omega
/-- a word's token: which word -/
theorem TkR.word (hL : LX B k n st ln) (h : TkR B n k st ln m t) (h9 : m 9 = 2) : t < k ∧ cb (B (st t)) = 2 ∧ m 8 = (st t : Int) ∧ m 7 = ((st t + ln t : Nat) : Int) ∧ m 11 = pkR (fun j => B (st t + j)) (ln t) ∧ kdF B k st ln t = wkG (wd B (st t) (ln t)) 23 0 := by
  rcases h with ⟨_, h, _⟩ | ⟨ht, h8, h⟩
  · omega
  · rcases h with ⟨_, h, _⟩ | ⟨hc, h, h7, h11⟩ | ⟨hc, hm, h, _⟩ | ⟨hc, hm, h⟩
    · omega
    · refine ⟨ht, hc, h8, h7, h11, ?_⟩
      unfold kdF tkd
      rw [if_pos ht, if_neg (by omega), if_pos hc]
    · exfalso
      rw [h] at h9
      rw [h9] at hm
      exact hm (by decide)
    · unfold bad at h; omega
theorem TkR.not2 (hL : LX B k n st ln) (h : TkR B n k st ln m t) (h9 : m 9 ≠ 2) : kdF B k st ln t ≤ 9 := by
  rcases h with ⟨e, h, _⟩ | ⟨ht, h8, h⟩
  · unfold kdF; rw [if_neg (by omega)]; decide
  · have hmk := mkF_b (B (st t))
    rcases h with ⟨hc, h, _⟩ | ⟨hc, h, h7, h11⟩ | ⟨hc, hm, h, _⟩ | ⟨hc, hm, h⟩
    · unfold kdF tkd; rw [if_pos ht, if_pos hc]; decide
    · exact absurd h h9
    · unfold kdF tkd; rw [if_pos ht, if_neg (by omega), if_neg (by omega)]; omega
    · unfold kdF tkd; rw [if_pos ht, if_neg (by omega), if_neg (by omega)]; omega
theorem TkR.i9 (hb : ∀ j, j < 300 → 0 ≤ B j ∧ B j ≤ 255) (hn : n ≤ 300) (hL : LX B k n st ln) (h : TkR B n k st ln m t) : 0 ≤ m 9 ∧ m 9 ≤ 255 := by
  rcases h with ⟨e, h, _⟩ | ⟨ht, h8, h⟩
  · omega
  · have hs := (hL.1 t ht).1
    have := hb (st t) (by omega)
    rcases h with ⟨hc, h, _⟩ | ⟨hc, h, h7, h11⟩ | ⟨hc, hm, h, _⟩ | ⟨hc, hm, h⟩
    · omega
    · omega
    · omega
    · unfold bad at h; omega
theorem TkR.tst (hL : LX B k n st ln) (h : TkR B n k st ln m t) {w : Nat} (hw : w < 23) (h7 : (sbytes w).length ≤ 7) (h9 : m 9 = 2) : (i64 (m 11)) ∧ (m 11 = wco w ↔ kdF B k st ln t = 10 + (w : Int)) := by
  obtain ⟨ht, hc, h8, h77, h11, hk⟩ := h.word hL h9
  have hl := hL.letters ht hc
  rw [h11, hk, wkG_eq hw, word_code hw h7 hl]
  refine ⟨?_, Iff.rfl⟩
  have := (pkR_step (f := fun j => B (st t + j)) (l := ln t - 1) fun j hj => by
    have := (hL.1 t ht).2.1
    exact hl j (by omega)).2.2
  by_cases e : ln t ≤ 7
  · have hb := pq_b (f := fun j => B (st t + j)) (ln t) fun j hj => by have := hl j hj; show 0 ≤ B (st t + j) ∧ B (st t + j) ≤ 255; omega
    have hp : (256 : Int) ^ (ln t) ≤ 256 ^ 7 := by
      have := Nat.pow_le_pow_right (n := 256) (j := 7) (show 0 < 256 by decide) e
      have h2 : ((256 ^ ln t : Nat) : Int) ≤ ((256 ^ 7 : Nat) : Int) := by omega
      rw [Int.natCast_pow] at h2
      exact h2
    rw [show pkR (fun j => B (st t + j)) (ln t) = pq (fun j => B (st t + j)) (ln t) from if_pos e]
    have h7' : (256 : Int) ^ 7 = 72057594037927936 := by decide
    exact ⟨by omega, by omega⟩
  · rw [show pkR (fun j => B (st t + j)) (ln t) = 1152921504606846976 from if_neg e]
    exact ⟨by decide, by decide⟩
end WD
theorem s_X12_w2 {d : Nat} {dd : List (Nat × Nat)} {sh : Nat → Nat → Nat} {g : Nat → Nat → Int} {K : Int → (Nat → Nat → Int) → Prop} {a b : Int} (ha : 0 ≤ a ∧ a ≤ 255) (hb : 0 ≤ b ∧ b ≤ 255) (hK : K (a * 256 + b) g) : cL (d + 1) m_X12_w2 [(vI a), (vI b)] dd sh g K := by
  refine mkL (ls := [some (vI a), some (vI b)]) rfl rfl rfl rfl rfl (r_X12_w2_0 ⟨⟨by omega, by omega⟩, ⟨by omega, by omega⟩, ?_⟩)
  rw [lor_add (by omega) hb]; exact hK
theorem s_X12_w3 {d : Nat} {dd : List (Nat × Nat)} {sh : Nat → Nat → Nat} {g : Nat → Nat → Int} {K : Int → (Nat → Nat → Int) → Prop} {a b c : Int} (ha : 0 ≤ a ∧ a ≤ 255) (hb : 0 ≤ b ∧ b ≤ 255) (hc : 0 ≤ c ∧ c ≤ 255) (hK : K ((a * 256 + b) * 256 + c) g) : cL (d + 2) m_X12_w3 [(vI a), (vI b), (vI c)] dd sh g K := by
  refine mkL (ls := [some (vI a), some (vI b), some (vI c)]) rfl rfl rfl rfl rfl (r_X12_w3_0 ?_)
  refine s_X12_w2 ha hb ⟨⟨by omega, by omega⟩, ?_⟩
  rw [lor_add (by omega) hc]; exact hK
theorem s_X12_w4 {d : Nat} {dd : List (Nat × Nat)} {sh : Nat → Nat → Nat} {g : Nat → Nat → Int} {K : Int → (Nat → Nat → Int) → Prop} {a b c e : Int} (ha : 0 ≤ a ∧ a ≤ 255) (hb : 0 ≤ b ∧ b ≤ 255) (hc : 0 ≤ c ∧ c ≤ 255) (he : 0 ≤ e ∧ e ≤ 255) (hK : K (((a * 256 + b) * 256 + c) * 256 + e) g) : cL (d + 3) m_X12_w4 [(vI a), (vI b), (vI c), (vI e)] dd sh g K := by
  refine mkL (ls := [some (vI a), some (vI b), some (vI c), some (vI e)]) rfl rfl rfl rfl rfl (r_X12_w4_0 ?_)
  refine s_X12_w3 ha hb hc ⟨⟨by omega, by omega⟩, ?_⟩
  rw [lor_add (by omega) he]; exact hK
theorem s_X12_w5 {d : Nat} {dd : List (Nat × Nat)} {sh : Nat → Nat → Nat} {g : Nat → Nat → Int} {K : Int → (Nat → Nat → Int) → Prop} {a b c e f : Int} (ha : 0 ≤ a ∧ a ≤ 255) (hb : 0 ≤ b ∧ b ≤ 255) (hc : 0 ≤ c ∧ c ≤ 255) (he : 0 ≤ e ∧ e ≤ 255) (hf : 0 ≤ f ∧ f ≤ 255) (hK : K ((((a * 256 + b) * 256 + c) * 256 + e) * 256 + f) g) : cL (d + 4) m_X12_w5 [(vI a), (vI b), (vI c), (vI e), (vI f)] dd sh g K := by
  refine mkL (ls := [some (vI a), some (vI b), some (vI c), some (vI e), some (vI f)]) rfl rfl rfl rfl rfl (r_X12_w5_0 ?_)
  refine s_X12_w4 ha hb hc he ⟨⟨by omega, by omega⟩, ?_⟩
  rw [lor_add (by omega) hf]; exact hK
theorem s_X12_w6 {d : Nat} {dd : List (Nat × Nat)} {sh : Nat → Nat → Nat} {g : Nat → Nat → Int} {K : Int → (Nat → Nat → Int) → Prop} {a b c e f h : Int} (ha : 0 ≤ a ∧ a ≤ 255) (hb : 0 ≤ b ∧ b ≤ 255) (hc : 0 ≤ c ∧ c ≤ 255) (he : 0 ≤ e ∧ e ≤ 255) (hf : 0 ≤ f ∧ f ≤ 255) (hh : 0 ≤ h ∧ h ≤ 255) (hK : K (((((a * 256 + b) * 256 + c) * 256 + e) * 256 + f) * 256 + h) g) : cL (d + 5) m_X12_w6 [(vI a), (vI b), (vI c), (vI e), (vI f), (vI h)] dd sh g K := by
  refine mkL (ls := [some (vI a), some (vI b), some (vI c), some (vI e), some (vI f), some (vI h)]) rfl rfl rfl rfl rfl (r_X12_w6_0 ?_)
  refine s_X12_w5 ha hb hc he hf ⟨⟨by omega, by omega⟩, ?_⟩
  rw [lor_add (by omega) hh]; exact hK
section NM
variable {B : Nat → Int} {n k t : Nat} {st ln : Nat → Nat}
theorem s_X12_isWord {d : Nat} {dd : List (Nat × Nat)} {sh : Nat → Nat → Nat} {g : Nat → Nat → Int} {K : Int → (Nat → Nat → Int) → Prop} {c : Int} {w : Nat} (hb : ∀ j, j < 300 → 0 ≤ B j ∧ B j ≤ 255) (hn : n ≤ 300) (hL : LX B k n st ln) (hT : TkR B n k st ln (g 134) t) (hw : w < 23) (h7 : (sbytes w).length ≤ 7) (hc : c = wco w) (hK : kdF B k st ln t = 10 + (w : Int) → K 1 g) (hK0 : kdF B k st ln t ≠ 10 + (w : Int) → K 0 g) : cI (d + 1) m_X12_isWord [(vR 134), (vL c)] dd sh g K := by
  have i9 := hT.i9 hb hn hL
  have cbd := wco_b w hw h7
  refine mkI (ls := [some (vR 134), some (vL c), none]) rfl rfl rfl rfl rfl (r_X12_isWord_0 ⟨⟨by omega, by omega⟩, fun h9 => ?_, fun h9 => ?_⟩)
  · exact hK0 (by have := hT.not2 hL h9; omega)
  · obtain ⟨t1, t2⟩ := hT.tst hL hw h7 h9
    rw [lcmp_eq, hc]
    exact ⟨t1, ⟨by omega, by omega⟩, lcmp32, fun h => hK0 fun x => h (t2.mpr x), fun h => hK (t2.mp h)⟩
set_option maxHeartbeats 1000000 in
theorem s_X12_nameOf {d : Nat} {dd : List (Nat × Nat)} {sh : Nat → Nat → Nat} {g : Nat → Nat → Int} {K : Int → (Nat → Nat → Int) → Prop} (hb : ∀ j, j < 300 → 0 ≤ B j ∧ B j ≤ 255) (hn : n ≤ 300) (hL : LX B k n st ln) (hT : TkR B n k st ln (g 134) t) (hK : 20 ≤ kdF B k st ln t → kdF B k st ln t ≤ 28 → K (kdF B k st ln t - 20) g) (hK0 : ¬ (20 ≤ kdF B k st ln t ∧ kdF B k st ln t ≤ 28) → K (-1) g) : cI (d + 6) m_X12_nameOf [(vR 134)] dd sh g K := by
  have i9 := hT.i9 hb hn hL
  refine mkI (ls := [some (vR 134)]) rfl rfl rfl rfl rfl (r_X12_nameOf_0 ⟨⟨by omega, by omega⟩, fun h9 => ?_, fun h9 => ?_⟩)
  · have hk : ∀ x : Int, (20 : Int) ≤ kdF B k st ln t → kdF B k st ln t ≤ 28 → x = kdF B k st ln t - 20 → K x g := fun x h1 h2 h3 => by rw [h3]; exact hK h1 h2
    have q : ∀ (w : Nat) (c : Int), w < 23 → (sbytes w).length ≤ 7 → c = wco w → (lcmpv (g 134 11) c = 0 ↔ kdF B k st ln t = 10 + (w : Int)) := fun w c hw h7 hc => by rw [lcmp_eq, hc]; exact (hT.tst hL hw h7 h9).2
    have i11 : i64 (g 134 11) := (hT.tst hL (w := 0) (by decide) (by decide) h9).1
    refine s_X12_w5 (d := d + 1) (by decide) (by decide) (by decide) (by decide) (by decide) ⟨i11, ⟨by decide, by decide⟩, lcmp32, fun h1 => ?_, fun h1 => ?_⟩
    · rw [q 10 _ (by decide) (by decide) (by decide)] at h1
      refine s_X12_w6 (d := d) (by decide) (by decide) (by decide) (by decide) (by decide) (by decide) ⟨i11, ⟨by decide, by decide⟩, lcmp32, fun h2 => ?_, fun h2 => ?_⟩
      · rw [q 11 _ (by decide) (by decide) (by decide)] at h2
        refine s_X12_w5 (d := d + 1) (by decide) (by decide) (by decide) (by decide) (by decide) ⟨i11, ⟨by decide, by decide⟩, lcmp32, fun h3 => ?_, fun h3 => ?_⟩
        · rw [q 12 _ (by decide) (by decide) (by decide)] at h3
          refine s_X12_w3 (d := d + 3) (by decide) (by decide) (by decide) ⟨i11, ⟨by decide, by decide⟩, lcmp32, fun h4 => ?_, fun h4 => ?_⟩
          · rw [q 13 _ (by decide) (by decide) (by decide)] at h4
            refine s_X12_w5 (d := d + 1) (by decide) (by decide) (by decide) (by decide) (by decide) ⟨i11, ⟨by decide, by decide⟩, lcmp32, fun h5 => ?_, fun h5 => ?_⟩
            · rw [q 14 _ (by decide) (by decide) (by decide)] at h5
              refine s_X12_w4 (d := d + 2) (by decide) (by decide) (by decide) (by decide) ⟨i11, ⟨by decide, by decide⟩, lcmp32, fun h6 => ?_, fun h6 => ?_⟩
              · rw [q 15 _ (by decide) (by decide) (by decide)] at h6
                refine s_X12_w6 (d := d) (by decide) (by decide) (by decide) (by decide) (by decide) (by decide) ⟨i11, ⟨by decide, by decide⟩, lcmp32, fun h7 => ?_, fun h7 => ?_⟩
                · rw [q 16 _ (by decide) (by decide) (by decide)] at h7
                  refine s_X12_w6 (d := d) (by decide) (by decide) (by decide) (by decide) (by decide) (by decide) ⟨i11, ⟨by decide, by decide⟩, lcmp32, fun h8 => ?_, fun h8 => ?_⟩
                  · rw [q 17 _ (by decide) (by decide) (by decide)] at h8
                    refine ⟨i11, lcmp32, fun h0 => ?_, fun h0 => ?_⟩
                    · rw [q 18 _ (by decide) (by decide) (by decide)] at h0
                      exact hK0 (by omega)
                    · rw [q 18 _ (by decide) (by decide) (by decide)] at h0
                      exact hk _ (by omega) (by omega) (by omega)
                  · rw [q 17 _ (by decide) (by decide) (by decide)] at h8
                    exact hk _ (by omega) (by omega) (by omega)
                · rw [q 16 _ (by decide) (by decide) (by decide)] at h7
                  exact hk _ (by omega) (by omega) (by omega)
              · rw [q 15 _ (by decide) (by decide) (by decide)] at h6
                exact hk _ (by omega) (by omega) (by omega)
            · rw [q 14 _ (by decide) (by decide) (by decide)] at h5
              exact hk _ (by omega) (by omega) (by omega)
          · rw [q 13 _ (by decide) (by decide) (by decide)] at h4
            exact hk _ (by omega) (by omega) (by omega)
        · rw [q 12 _ (by decide) (by decide) (by decide)] at h3
          exact hk _ (by omega) (by omega) (by omega)
      · rw [q 11 _ (by decide) (by decide) (by decide)] at h2
        exact hk _ (by omega) (by omega) (by omega)
    · rw [q 10 _ (by decide) (by decide) (by decide)] at h1
      exact hk _ (by omega) (by omega) (by omega)
  · exact hK0 (by have := hT.not2 hL h9; omega)
theorem s_X12_isLong3 {d : Nat} {dd : List (Nat × Nat)} {sh : Nat → Nat → Nat} {g : Nat → Nat → Int} {K : Int → (Nat → Nat → Int) → Prop} (h4 : g 134 4 = (n : Int)) (hb : ∀ j, j < 300 → 0 ≤ g 138 j ∧ g 138 j ≤ 255) (hn : n ≤ 300) (hL : LX (g 138) k n st ln) (hT : TkR (g 138) n k st ln (g 134) t) {c1 c2 : Int} (e1 : c1 = ((115 * 256 + 117) * 256 + 115) * 256 + 112) (e2 : c2 = (101 * 256 + 99) * 256 + 116) (hK : kdF (g 138) k st ln t = 13 → K 1 g) (hK0 : kdF (g 138) k st ln t ≠ 13 → K 0 g) : cI (d + 4) m_X12_isLong [(vR 134), (vL c1), (vL c2), (vI 3)] dd sh g K := by
  have i9 := hT.i9 hb hn hL
  refine mkI (ls := [some (vR 134), some (vL c1), none, some (vL c2), none, some (vI 3), none, none]) rfl rfl rfl rfl rfl (r_X12_isLong_0 ⟨⟨by omega, by omega⟩, fun h9 => ?_, fun h9 => ?_⟩)
  · exact hK0 (by have := hT.not2 hL h9; omega)
  · obtain ⟨ht, hc, h8, h77, h11, hk⟩ := hT.word hL h9
    obtain ⟨a1, a2, a3, a4, a5, a6, a7⟩ := hL.1 t ht
    have ek : kdF (g 138) k st ln t = 13 ↔ sbytes 3 = wd (g 138) (st t) (ln t) := by
      rw [hk]; exact wkG_eq (w := 3) (by decide)
    rw [wd_eq] at ek
    rw [h8, h77]
    refine ⟨⟨by omega, by omega⟩, ⟨by decide, by decide⟩, fun hl => ⟨⟨by decide, by decide⟩, fun h => absurd rfl h, fun _ => ?_⟩, fun hl => hK0 fun x => hl (by have := (ek.mp x).1; have e7 : (sbytes 3).length = 7 := rfl; omega)⟩
    have l7 : ln t = 7 := by omega
    rw [l7] at ek
    have hbj : ∀ j, j < 7 → 0 ≤ g 138 (st t + j) ∧ g 138 (st t + j) ≤ 255 := fun j hj => hb _ (by omega)
    have by_ : ∀ (j : Nat) (K' : Int → (Nat → Nat → Int) → Prop), j < 7 → K' (g 138 (st t + j)) g → cI (d + 3) m_X12_byteAt [(vR 134), (vI (((st t + j : Nat)) : Int))] dd sh g K' := fun j K' hj h => s_X12_byteAt (d := d + 2) h4 hn (by omega) (fun _ => h) (fun h => absurd h (by omega))
    rw [show (st t : Int) + 4 = ((st t + 4 : Nat) : Int) by omega]
    refine by_ 4 _ (by decide) ?_
    rw [h8, show (st t : Int) + 5 = ((st t + 5 : Nat) : Int) by omega]
    refine by_ 5 _ (by decide) ?_
    rw [h8, show (st t : Int) + 6 = ((st t + 6 : Nat) : Int) by omega]
    refine by_ 6 _ (by decide) ?_
    refine s_X12_w3 (d := d + 1) (hbj 4 (by decide)) (hbj 5 (by decide)) (hbj 6 (by decide)) ?_
    rw [h8, show (st t : Int) = ((st t + 0 : Nat) : Int) by omega]
    refine by_ 0 _ (by decide) ?_
    rw [h8, show (st t : Int) + 1 = ((st t + 1 : Nat) : Int) by omega]
    refine by_ 1 _ (by decide) ?_
    rw [h8, show (st t : Int) + 2 = ((st t + 2 : Nat) : Int) by omega]
    refine by_ 2 _ (by decide) ?_
    rw [h8, show (st t : Int) + 3 = ((st t + 3 : Nat) : Int) by omega]
    refine by_ 3 _ (by decide) ?_
    refine s_X12_w4 (d := d) (hbj 0 (by decide)) (hbj 1 (by decide)) (hbj 2 (by decide)) (hbj 3 (by decide)) ?_
    have b0 := hbj 0 (by decide)
    have b1 := hbj 1 (by decide)
    have b2 := hbj 2 (by decide)
    have b3 := hbj 3 (by decide)
    have b4 := hbj 4 (by decide)
    have b5 := hbj 5 (by decide)
    have b6 := hbj 6 (by decide)
    have no : ¬ (g 138 (st t + 0) = 115 ∧ g 138 (st t + 1) = 117 ∧ g 138 (st t + 2) = 115 ∧ g 138 (st t + 3) = 112 ∧ g 138 (st t + 4) = 101 ∧ g 138 (st t + 5) = 99 ∧ g 138 (st t + 6) = 116) → K 0 g := fun h => hK0 fun x => h (by
      have q := (ek.mp x).2
      exact ⟨(q 0 (by decide)).symm, (q 1 (by decide)).symm, (q 2 (by decide)).symm, (q 3 (by decide)).symm, (q 4 (by decide)).symm, (q 5 (by decide)).symm, (q 6 (by decide)).symm⟩)
    simp only [lcmp_eq]
    refine ⟨⟨by omega, by omega⟩, ⟨by omega, by omega⟩, lcmp32, fun h => no (by omega), fun h => ⟨⟨by omega, by omega⟩, ⟨by omega, by omega⟩, lcmp32, fun h' => no (by omega), fun h' => hK (ek.mpr ⟨rfl, fun j hj => ?_⟩)⟩⟩
    have hj7 : j = 0 ∨ j = 1 ∨ j = 2 ∨ j = 3 ∨ j = 4 ∨ j = 5 ∨ j = 6 := by omega
    rcases hj7 with rfl | rfl | rfl | rfl | rfl | rfl | rfl
    · show (115 : Int) = _; omega
    · show (117 : Int) = _; omega
    · show (115 : Int) = _; omega
    · show (112 : Int) = _; omega
    · show (101 : Int) = _; omega
    · show (99 : Int) = _; omega
    · show (116 : Int) = _; omega
theorem s_X12_isLong4 {d : Nat} {dd : List (Nat × Nat)} {sh : Nat → Nat → Nat} {g : Nat → Nat → Int} {K : Int → (Nat → Nat → Int) → Prop} (h4 : g 134 4 = (n : Int)) (hb : ∀ j, j < 300 → 0 ≤ g 138 j ∧ g 138 j ≤ 255) (hn : n ≤ 300) (hL : LX (g 138) k n st ln) (hT : TkR (g 138) n k st ln (g 134) t) {c1 c2 : Int} (e1 : c1 = ((109 * 256 + 117) * 256 + 114) * 256 + 100) (e2 : c2 = ((101 * 256 + 114) * 256 + 101) * 256 + 114) (hK : kdF (g 138) k st ln t = 14 → K 1 g) (hK0 : kdF (g 138) k st ln t ≠ 14 → K 0 g) : cI (d + 4) m_X12_isLong [(vR 134), (vL c1), (vL c2), (vI 4)] dd sh g K := by
  have i9 := hT.i9 hb hn hL
  refine mkI (ls := [some (vR 134), some (vL c1), none, some (vL c2), none, some (vI 4), none, none]) rfl rfl rfl rfl rfl (r_X12_isLong_0 ⟨⟨by omega, by omega⟩, fun h9 => ?_, fun h9 => ?_⟩)
  · exact hK0 (by have := hT.not2 hL h9; omega)
  · obtain ⟨ht, hc, h8, h77, h11, hk⟩ := hT.word hL h9
    obtain ⟨a1, a2, a3, a4, a5, a6, a7⟩ := hL.1 t ht
    have ek : kdF (g 138) k st ln t = 14 ↔ sbytes 4 = wd (g 138) (st t) (ln t) := by
      rw [hk]; exact wkG_eq (w := 4) (by decide)
    rw [wd_eq] at ek
    rw [h8, h77]
    refine ⟨⟨by omega, by omega⟩, ⟨by decide, by decide⟩, fun hl => ⟨⟨by decide, by decide⟩, fun _ => ?_, fun h => absurd h (by decide)⟩, fun hl => hK0 fun x => hl (by have := (ek.mp x).1; have e7 : (sbytes 4).length = 8 := rfl; omega)⟩
    have l7 : ln t = 8 := by omega
    rw [l7] at ek
    have hbj : ∀ j, j < 8 → 0 ≤ g 138 (st t + j) ∧ g 138 (st t + j) ≤ 255 := fun j hj => hb _ (by omega)
    have by_ : ∀ (j : Nat) (K' : Int → (Nat → Nat → Int) → Prop), j < 8 → K' (g 138 (st t + j)) g → cI (d + 3) m_X12_byteAt [(vR 134), (vI (((st t + j : Nat)) : Int))] dd sh g K' := fun j K' hj h => s_X12_byteAt (d := d + 2) h4 hn (by omega) (fun _ => h) (fun h => absurd h (by omega))
    rw [show (st t : Int) + 4 = ((st t + 4 : Nat) : Int) by omega]
    refine by_ 4 _ (by decide) ?_
    rw [h8, show (st t : Int) + 5 = ((st t + 5 : Nat) : Int) by omega]
    refine by_ 5 _ (by decide) ?_
    rw [h8, show (st t : Int) + 6 = ((st t + 6 : Nat) : Int) by omega]
    refine by_ 6 _ (by decide) ?_
    rw [h8, show (st t : Int) + 7 = ((st t + 7 : Nat) : Int) by omega]
    refine by_ 7 _ (by decide) ?_
    refine s_X12_w4 (d := d) (hbj 4 (by decide)) (hbj 5 (by decide)) (hbj 6 (by decide)) (hbj 7 (by decide)) ?_
    rw [h8, show (st t : Int) = ((st t + 0 : Nat) : Int) by omega]
    refine by_ 0 _ (by decide) ?_
    rw [h8, show (st t : Int) + 1 = ((st t + 1 : Nat) : Int) by omega]
    refine by_ 1 _ (by decide) ?_
    rw [h8, show (st t : Int) + 2 = ((st t + 2 : Nat) : Int) by omega]
    refine by_ 2 _ (by decide) ?_
    rw [h8, show (st t : Int) + 3 = ((st t + 3 : Nat) : Int) by omega]
    refine by_ 3 _ (by decide) ?_
    refine s_X12_w4 (d := d) (hbj 0 (by decide)) (hbj 1 (by decide)) (hbj 2 (by decide)) (hbj 3 (by decide)) ?_
    have b0 := hbj 0 (by decide)
    have b1 := hbj 1 (by decide)
    have b2 := hbj 2 (by decide)
    have b3 := hbj 3 (by decide)
    have b4 := hbj 4 (by decide)
    have b5 := hbj 5 (by decide)
    have b6 := hbj 6 (by decide)
    have b7 := hbj 7 (by decide)
    have no : ¬ (g 138 (st t + 0) = 109 ∧ g 138 (st t + 1) = 117 ∧ g 138 (st t + 2) = 114 ∧ g 138 (st t + 3) = 100 ∧ g 138 (st t + 4) = 101 ∧ g 138 (st t + 5) = 114 ∧ g 138 (st t + 6) = 101 ∧ g 138 (st t + 7) = 114) → K 0 g := fun h => hK0 fun x => h (by
      have q := (ek.mp x).2
      exact ⟨(q 0 (by decide)).symm, (q 1 (by decide)).symm, (q 2 (by decide)).symm, (q 3 (by decide)).symm, (q 4 (by decide)).symm, (q 5 (by decide)).symm, (q 6 (by decide)).symm, (q 7 (by decide)).symm⟩)
    simp only [lcmp_eq]
    refine ⟨⟨by omega, by omega⟩, ⟨by omega, by omega⟩, lcmp32, fun h => no (by omega), fun h => ⟨⟨by omega, by omega⟩, ⟨by omega, by omega⟩, lcmp32, fun h' => no (by omega), fun h' => hK (ek.mpr ⟨rfl, fun j hj => ?_⟩)⟩⟩
    have hj7 : j = 0 ∨ j = 1 ∨ j = 2 ∨ j = 3 ∨ j = 4 ∨ j = 5 ∨ j = 6 ∨ j = 7 := by omega
    rcases hj7 with rfl | rfl | rfl | rfl | rfl | rfl | rfl | rfl
    · show (109 : Int) = _; omega
    · show (117 : Int) = _; omega
    · show (114 : Int) = _; omega
    · show (100 : Int) = _; omega
    · show (101 : Int) = _; omega
    · show (114 : Int) = _; omega
    · show (101 : Int) = _; omega
    · show (114 : Int) = _; omega
set_option maxHeartbeats 1000000 in
theorem s_X12_sortOf {d : Nat} {dd : List (Nat × Nat)} {sh : Nat → Nat → Nat} {g : Nat → Nat → Int} {K : Int → (Nat → Nat → Int) → Prop} (h4 : g 134 4 = (n : Int)) (hb : ∀ j, j < 300 → 0 ≤ g 138 j ∧ g 138 j ≤ 255) (hn : n ≤ 300) (hL : LX (g 138) k n st ln) (hT : TkR (g 138) n k st ln (g 134) t) (hK : 10 ≤ kdF (g 138) k st ln t → kdF (g 138) k st ln t ≤ 20 → K (kdF (g 138) k st ln t - 10) g) (hK0 : ¬ (10 ≤ kdF (g 138) k st ln t ∧ kdF (g 138) k st ln t ≤ 20) → K (-1) g) : cI (d + 6) m_X12_sortOf [(vR 134)] dd sh g K := by
  have hk : ∀ x : Int, (10 : Int) ≤ kdF (g 138) k st ln t → kdF (g 138) k st ln t ≤ 20 → x = kdF (g 138) k st ln t - 10 → K x g := fun x h1 h2 h3 => by rw [h3]; exact hK h1 h2
  refine mkI (ls := [some (vR 134)]) rfl rfl rfl rfl rfl (r_X12_sortOf_0 ?_)
  refine s_X12_w5 (d := d + 1) (by decide) (by decide) (by decide) (by decide) (by decide) ?_
  refine s_X12_isWord (d := d + 4) (w := 0) hb hn hL hT (by decide) (by decide) (by decide) (fun h => ⟨⟨by decide, by decide⟩, fun h => absurd h (by decide), fun _ => hk _ (by omega) (by omega) (by omega)⟩) (fun n0 => ⟨⟨by decide, by decide⟩, fun _ => ?_, fun h => absurd rfl h⟩)
  refine s_X12_w5 (d := d + 1) (by decide) (by decide) (by decide) (by decide) (by decide) ?_
  refine s_X12_isWord (d := d + 4) (w := 1) hb hn hL hT (by decide) (by decide) (by decide) (fun h => ⟨⟨by decide, by decide⟩, fun h => absurd h (by decide), fun _ => hk _ (by omega) (by omega) (by omega)⟩) (fun n1 => ⟨⟨by decide, by decide⟩, fun _ => ?_, fun h => absurd rfl h⟩)
  refine s_X12_w4 (d := d + 2) (by decide) (by decide) (by decide) (by decide) ?_
  refine s_X12_isWord (d := d + 4) (w := 2) hb hn hL hT (by decide) (by decide) (by decide) (fun h => ⟨⟨by decide, by decide⟩, fun h => absurd h (by decide), fun _ => hk _ (by omega) (by omega) (by omega)⟩) (fun n2 => ⟨⟨by decide, by decide⟩, fun _ => ?_, fun h => absurd rfl h⟩)
  refine s_X12_w4 (d := d + 2) (by decide) (by decide) (by decide) (by decide) ?_
  refine s_X12_w3 (d := d + 3) (by decide) (by decide) (by decide) ?_
  refine s_X12_isLong3 (d := d + 1) h4 hb hn hL hT (by decide) (by decide) (fun h => ⟨⟨by decide, by decide⟩, fun h => absurd h (by decide), fun _ => hk _ (by omega) (by omega) (by omega)⟩) (fun n3 => ⟨⟨by decide, by decide⟩, fun _ => ?_, fun h => absurd rfl h⟩)
  refine s_X12_w4 (d := d + 2) (by decide) (by decide) (by decide) (by decide) ?_
  refine s_X12_w4 (d := d + 2) (by decide) (by decide) (by decide) (by decide) ?_
  refine s_X12_isLong4 (d := d + 1) h4 hb hn hL hT (by decide) (by decide) (fun h => ⟨⟨by decide, by decide⟩, fun h => absurd h (by decide), fun _ => hk _ (by omega) (by omega) (by omega)⟩) (fun n4 => ⟨⟨by decide, by decide⟩, fun _ => ?_, fun h => absurd rfl h⟩)
  refine s_X12_w5 (d := d + 1) (by decide) (by decide) (by decide) (by decide) (by decide) ?_
  refine s_X12_isWord (d := d + 4) (w := 5) hb hn hL hT (by decide) (by decide) (by decide) (fun h => ⟨⟨by decide, by decide⟩, fun h => absurd h (by decide), fun _ => hk _ (by omega) (by omega) (by omega)⟩) (fun n5 => ⟨⟨by decide, by decide⟩, fun _ => ?_, fun h => absurd rfl h⟩)
  refine s_X12_w3 (d := d + 3) (by decide) (by decide) (by decide) ?_
  refine s_X12_isWord (d := d + 4) (w := 6) hb hn hL hT (by decide) (by decide) (by decide) (fun h => ⟨⟨by decide, by decide⟩, fun h => absurd h (by decide), fun _ => hk _ (by omega) (by omega) (by omega)⟩) (fun n6 => ⟨⟨by decide, by decide⟩, fun _ => ?_, fun h => absurd rfl h⟩)
  refine s_X12_w6 (d := d) (by decide) (by decide) (by decide) (by decide) (by decide) (by decide) ?_
  refine s_X12_isWord (d := d + 4) (w := 7) hb hn hL hT (by decide) (by decide) (by decide) (fun h => ⟨⟨by decide, by decide⟩, fun h => absurd h (by decide), fun _ => hk _ (by omega) (by omega) (by omega)⟩) (fun n7 => ⟨⟨by decide, by decide⟩, fun _ => ?_, fun h => absurd rfl h⟩)
  refine s_X12_w4 (d := d + 2) (by decide) (by decide) (by decide) (by decide) ?_
  refine s_X12_isWord (d := d + 4) (w := 8) hb hn hL hT (by decide) (by decide) (by decide) (fun h => ⟨⟨by decide, by decide⟩, fun h => absurd h (by decide), fun _ => hk _ (by omega) (by omega) (by omega)⟩) (fun n8 => ⟨⟨by decide, by decide⟩, fun _ => ?_, fun h => absurd rfl h⟩)
  refine s_X12_w4 (d := d + 2) (by decide) (by decide) (by decide) (by decide) ?_
  refine s_X12_isWord (d := d + 4) (w := 9) hb hn hL hT (by decide) (by decide) (by decide) (fun h => ⟨⟨by decide, by decide⟩, fun h => absurd h (by decide), fun _ => hk _ (by omega) (by omega) (by omega)⟩) (fun n9 => ⟨⟨by decide, by decide⟩, fun _ => ?_, fun h => absurd rfl h⟩)
  refine s_X12_w5 (d := d + 1) (by decide) (by decide) (by decide) (by decide) (by decide) ?_
  refine s_X12_isWord (d := d + 4) (w := 10) hb hn hL hT (by decide) (by decide) (by decide) (fun h => ⟨⟨by decide, by decide⟩, fun h => absurd h (by decide), fun _ => hk _ (by omega) (by omega) (by omega)⟩) (fun n10 => ⟨⟨by decide, by decide⟩, fun _ => hK0 (by omega), fun h => absurd rfl h⟩)
end NM
