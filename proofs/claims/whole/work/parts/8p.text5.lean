-- text: both alike
theorem stK_le {B : Nat → Int} {n k : Nat} {st ln : Nat → Nat} (hL : LX B k n st ln) (t : Nat) : stK n k st t ≤ n := by
  unfold stK
  split
  · next h => exact Nat.le_of_lt (hL.1 t h).1
  · exact Nat.le_refl _
theorem Inv.rd {dd : List (Nat × Nat)} {sh : Nat → Nat → Nat} {g g3 : Nat → Nat → Int} {a2 : Nat} (hI : Inv dd sh g) (h2 : g 135 2 = (a2 : Int)) (o : ∀ q, q ≤ 101 ∨ q = 135 ∨ q = 136 ∨ 149 ≤ q → g3 q = g q) (oT : ∀ i, i < 681 * a2 → g3 137 i = g 137 i) (hx : RXg g3) : Inv dd sh g3 := by
  refine ⟨?_, ?_, ?_, ?_, ?_, ?_, ?_, ?_, hx⟩
  · unfold RSc
    rw [o 3 (by omega), o 4 (by omega), o 5 (by omega), o 6 (by omega), o 7 (by omega), o 8 (by omega), o 9 (by omega), o 10 (by omega), o 135 (by omega)]; exact hI.s
  · unfold RNc
    rw [o 12 (by omega), o 13 (by omega), o 14 (by omega), o 16 (by omega), o 17 (by omega), o 18 (by omega), o 19 (by omega), o 135 (by omega)]; exact hI.nn
  · unfold RHc
    rw [o 2 (by omega), o 135 (by omega)]
    exact RHrow hI.h fun k hk => o (21 + k) (by omega)
  · rw [o 135 (by omega)]
    intro t ht hq
    exact (hI.xt t ht hq).ext (fun j x h => h) (fun q h1 _ => o q (by omega)) (fun i h1 h3 => oT i (by omega))
  · unfold RSi
    rw [o 53 (by omega), o 54 (by omega), o 55 (by omega), o 56 (by omega), o 57 (by omega), o 58 (by omega), o 59 (by omega), o 60 (by omega), o 136 (by omega)]; exact hI.si
  · unfold RNi
    rw [o 62 (by omega), o 63 (by omega), o 64 (by omega), o 66 (by omega), o 67 (by omega), o 68 (by omega), o 69 (by omega), o 136 (by omega)]; exact hI.ni
  · unfold RHi
    rw [o 52 (by omega), o 136 (by omega)]
    exact RHrow hI.hi fun k hk => o (71 + k) (by omega)
  · rw [o 135 (by omega), o 136 (by omega)]; exact hI.xs
theorem RH.txt {h h' a b : Nat → Int} {row : Nat → Nat → Int} {a2 : Nat} (H : RH h row a) (h2 : a 2 = (a2 : Int)) (h4 : a2 < 4) (e : ∀ k, k ≠ 6 → h' k = h k) (e6 : h' 6 = (a2 : Int) + 1) (eb : ∀ k, k ≠ 2 → b k = a k) (e2 : b 2 = (a2 : Int) + 1) : RH h' row b := by
  have hr := H.ru
  refine ⟨?_, ?_, ?_, ?_, fun j hj => ?_⟩
  · rw [e 4 (by omega), eb 4 (by omega)]; exact H.st
  · rw [e 3 (by omega)]; exact H.el
  · rw [e6, e2]; exact ⟨rfl, by omega, by omega⟩
  · rw [e 7 (by omega), eb 3 (by omega), e2]; exact ⟨hr.1, hr.2.1, by omega⟩
  · rw [e 3 (by omega)]
    rw [eb 4 (by omega)] at hj
    exact (H.rt j hj).fr (fun k _ _ => eb k (by omega)) (by rw [eb 0 (by omega)]; exact Int.le_refl _) (by rw [eb 1 (by omega)]; exact Int.le_refl _)
theorem Inv.newt {dd : List (Nat × Nat)} {sh : Nat → Nat → Nat} {g g3 : Nat → Nat → Int} {a2 : Nat} {x : Nat × Nat} (hI : Inv dd sh g) (h2 : g 135 2 = (a2 : Int)) (h4 : a2 < 4) (o : ∀ q, q ≠ 2 → q ≤ 101 ∨ q = 136 ∨ (149 ≤ q ∧ q < nxt dd) → g3 q = g q) (o2 : ∀ j, j ≠ 6 → g3 2 j = g 2 j) (v2 : g3 2 6 = (a2 : Int) + 1) (o5 : ∀ j, j ≠ 2 → g3 135 j = g 135 j) (v5 : g3 135 2 = (a2 : Int) + 1) (oT : ∀ i, i < 681 * a2 → g3 137 i = g 137 i) (hx : RXg g3) (hn : TextOk (dd ++ [x]) (nxt dd) g3 (g3 137) a2) : Inv (dd ++ [x]) (up sh 51 a2 (nxt dd)) g3 := by
  obtain ⟨x1, x2, x3, x4⟩ := hI.xs
  have hlen : (dd ++ [x]).length = dd.length + 1 := by simp
  have hN : nxt dd = 149 + 7 * dd.length := rfl
  have s51 : ∀ t, up sh 51 a2 (nxt dd) 51 t = if t = a2 then nxt dd else sh 51 t := fun t => by unfold up; rw [if_pos rfl]
  have s101 : ∀ t, up sh 51 a2 (nxt dd) 101 t = sh 101 t := fun t => by unfold up; rw [if_neg (by decide)]
  refine ⟨?_, ?_, ?_, ?_, ?_, ?_, ?_, ?_, hx⟩
  · unfold RSc
    rw [o 3 (by omega) (by omega), o 4 (by omega) (by omega), o 5 (by omega) (by omega), o 6 (by omega) (by omega), o 7 (by omega) (by omega), o 8 (by omega) (by omega), o 9 (by omega) (by omega), o 10 (by omega) (by omega)]
    exact hI.s.fr (fun k hk => o5 k (by omega)) (fun p q _ _ => o5 _ (by omega))
  · unfold RNc
    rw [o 12 (by omega) (by omega), o 13 (by omega) (by omega), o 14 (by omega) (by omega), o 16 (by omega) (by omega), o 17 (by omega) (by omega), o 18 (by omega) (by omega), o 19 (by omega) (by omega)]
    exact hI.nn.fr (fun k hk => o5 k (by omega)) (fun p _ => o5 _ (by omega))
  · unfold RHc
    exact (RHrow hI.h fun k hk => o (21 + k) (by omega) (by omega)).txt h2 h4 o2 v2 o5 v5
  · intro t ht hq
    rw [s51]
    by_cases e : t = a2
    · subst e; rw [if_pos rfl]; exact hn
    · rw [if_neg e]
      rw [v5] at hq
      refine (hI.xt t ht (by omega)).ext (fun j y h => ?_) (fun q h1 h3 => o q (by omega) (Or.inr (Or.inr ⟨h1, by omega⟩))) (fun i h1 h3 => oT i (by omega))
      have hj : j < dd.length := (List.getElem?_eq_some_iff.mp h).1
      rw [List.getElem?_append_left hj]; exact h
  · unfold RSi
    rw [o 53 (by omega) (by omega), o 54 (by omega) (by omega), o 55 (by omega) (by omega), o 56 (by omega) (by omega), o 57 (by omega) (by omega), o 58 (by omega) (by omega), o 59 (by omega) (by omega), o 60 (by omega) (by omega), o 136 (by omega) (by omega)]; exact hI.si
  · unfold RNi
    rw [o 62 (by omega) (by omega), o 63 (by omega) (by omega), o 64 (by omega) (by omega), o 66 (by omega) (by omega), o 67 (by omega) (by omega), o 68 (by omega) (by omega), o 69 (by omega) (by omega), o 136 (by omega) (by omega)]; exact hI.ni
  · unfold RHi
    rw [o 52 (by omega) (by omega), o 136 (by omega) (by omega)]
    exact RHrow hI.hi fun k hk => o (71 + k) (by omega) (by omega)
  · rw [o 136 (by omega) (by omega)]
    refine ⟨fun t ht => ?_, fun t ht => ?_, ?_, fun t ht hq => ?_⟩
    · rw [s51]
      by_cases e : t = a2
      · rw [if_pos e]; exact Or.inr ⟨dd.length, by omega, hN⟩
      · rw [if_neg e]
        rcases x1 t ht with z | ⟨j, z1, z2⟩
        · exact Or.inl z
        · exact Or.inr ⟨j, by omega, z2⟩
    · rw [s101]
      rcases x2 t ht with z | ⟨j, z1, z2⟩
      · exact Or.inl z
      · exact Or.inr ⟨j, by omega, z2⟩
    · rw [v5]; omega
    · rw [s101, s51, if_neg (by omega)]
      exact x4 t ht hq
theorem sim_text : S_text := by
  intro dd sh g hI
  obtain ⟨⟨p1, p2, p3⟩, pb, ⟨r1, r1a, r1b⟩, ⟨r2, r2a, r2b⟩, p22⟩ := id hI.x
  obtain ⟨t6, t0, t4⟩ := hI.h.tx
  obtain ⟨a2, ha2⟩ := Int.eq_ofNat_of_zero_le t0
  obtain ⟨n, hn⟩ := Int.eq_ofNat_of_zero_le p2
  have hb3 : ∀ j, j < 300 → 0 ≤ g 138 j ∧ g 138 j ≤ 255 := fun j hj => (pb j hj).2
  have hnx : nxt dd = 149 + 7 * dd.length := rfl
  unfold SimW
  refine mkWI (ls := [some (vR 1), none]) rfl rfl rfl rfl rfl (r_X11_text_0 ?_)
  rw [t6, ha2]
  refine ⟨⟨by omega, by omega⟩, fun h4 => ?_, fun h4 => ?_⟩
  · have h4 : a2 < 4 := by omega
    refine c_readTape (d := 176) (B := g 138) (n := n) (fun j hj => ((pb j hj).1).symm) (by rw [p1, hn]) (by omega) (fun j hj => by rw [(pb j hj).1]; exact hb3 j hj) ?_ ?_
    · intro k st ln hL hkn N ts css kk vv ww CC f p hS hz hc hf g' fT e1 e2
      refine mkWI (ls := [some (vR 2), some (vR 0)]) rfl rfl rfl rfl rfl (r_X1_keepText_0 ⟨fun _ => ?_, fun h => absurd rfl h⟩)
      have u : ∀ q, q ≠ 102 → up g' 102 1 0 q = g' q := fun q hq => up_off hq
      have uT : ∀ q, (q < 102 ∨ q = 103 ∨ 114 < q) → up g' 102 1 0 q = g q := fun q hq => by rw [u q (by omega)]; exact fT.1 q hq
      have hLT : LT (g 138) n k st ln (up g' 102 1 0) := ⟨by rw [uT 134 (by decide)]; exact hn, by omega, hb3, uT 138 (by decide), hL⟩
      refine r_text_bad (d := 187) (a2 := a2) (x0 := 681 * a2) rfl (by rw [uT 135 (by decide)]; exact ha2) h4 hLT hS hz hc fun g3 t3 v2 v5 v6 v4 => ?_
      obtain ⟨w1, w2, w3, w4⟩ := t3
      have hle := stK_le hL p
      have e135 : g3 135 = g 135 := by
        funext j
        by_cases e : j = 2
        · subst e; rw [v2, ha2]
        · rw [w4 j e, uT 135 (by decide)]
      refine ⟨rfl, ⟨by decide, by decide⟩, hI.rd ha2 (fun q hq => ?_) (fun i hi => ?_) ⟨⟨?_, ?_, ?_⟩, fun i hi => ?_, ⟨?_, ?_, ?_⟩, ⟨?_, ?_, ?_⟩, ?_⟩⟩
      · by_cases e : q = 135
        · subst e; exact e135
        · rw [w1 q (by omega) e (by omega) (by omega)]; exact uT q (by omega)
      · rw [w3 i (by omega), uT 137 (by decide)]
      · rw [w1 102 (by decide) (by decide) (by decide) (by decide), v4, up_at, if_pos rfl]
      · rw [v4]; exact Int.le_refl _
      · rw [v4]; decide
      · rw [w1 103 (by decide) (by decide) (by decide) (by decide), w1 138 (by decide) (by decide) (by decide) (by decide), uT 103 (by decide), uT 138 (by decide)]; exact pb i hi
      · rw [w1 108 (by decide) (by decide) (by decide) (by decide), u 108 (by decide), e1, v5]
      · rw [v5]; omega
      · rw [v5]; omega
      · rw [w1 108 (by decide) (by decide) (by decide) (by decide), u 108 (by decide), e2, v6]
      · rw [v6]; omega
      · rw [v6]; omega
      · rw [w2, uT 134 (by decide)]; exact p22
    · intro k st ln hL hkn N ts css kk vv ww CC hS hz gc g' hRC hG e1 e2
      have hk : ∀ t, kdF (g 138) k st ln t ≠ 0 → t < k := fun t => kdF_lt
      obtain ⟨s1, s2, s3⟩ := seq_b hk hS N (Nat.le_refl _)
      obtain ⟨G1, G2, G3, G4, G5, G6, G7, G8⟩ := hG
      have hj : (dd ++ [(css N, N)])[dd.length]? = some (css N, N) := by simp
      have u1 : ∀ q, q ≠ 102 → up g' 102 1 0 q = g' q := fun q hq => up_off hq
      have e26 : up g' 102 1 0 2 6 = (a2 : Int) := by rw [u1 2 (by decide), G1 2 (by omega) (by decide), t6, ha2]
      refine mkWI (ls := [some (vR 2), some (vR (nxt dd))]) rfl rfl rfl rfl rfl (r_X1_keepText_0 ?_)
      rw [e26]
      refine ⟨fun h => absurd h (by omega), fun _ => ⟨⟨by omega, by omega⟩, fun h => absurd h (by omega), fun _ => ⟨fun _ => ⟨by omega, by omega, Or.inr (T_at7 hj).1, ?_⟩, fun h => absurd h (by omega)⟩⟩⟩
      rw [show ((a2 : Nat) : Int).toNat = a2 from rfl]
      generalize hgA : up (up g' 102 1 0) 2 6 ((a2 : Int) + 1) = gA
      have oA : ∀ q, q ≠ 2 → q ≠ 102 → gA q = g' q := fun q a b => by rw [← hgA, up_off a, up_off b]
      have oA2 : ∀ j, j ≠ 6 → gA 2 j = g' 2 j := fun j a => by rw [← hgA, up_at, if_neg a, up_off (by decide)]
      have vA2 : gA 2 6 = (a2 : Int) + 1 := by rw [← hgA, up_at, if_pos rfl]
      have vA102 : gA 102 1 = 0 := by rw [← hgA, up_off (by decide), up_at, if_pos rfl]
      have oG : ∀ q, q ≠ 2 → (q < 102 ∨ q = 103 ∨ 114 < q) → q < nxt dd → gA q = g q := fun q a b c => by rw [oA q a (by omega)]; exact G1 q c b
      clear hgA
      have hLT : LT (g 138) n k st ln gA := ⟨by rw [oG 134 (by decide) (by decide) (by omega)]; exact hn, by omega, hb3, oG 138 (by decide) (by decide) (by omega), hL⟩
      refine r_text_ok (d := 187) (a2 := a2) (x0 := 681 * a2) rfl (by rw [oG 135 (by decide) (by decide) (by omega)]; exact ha2) h4 hLT hS hz fun g3 t3 v2 v5 v6 v4 hRR => ?_
      obtain ⟨w1, w2, w3, w4⟩ := t3
      have wq : ∀ q, 149 ≤ q → g3 q = g' q := fun q hq => by rw [w1 q (by omega) (by omega) (by omega) (by omega), oA q (by omega) (by omega)]
      refine ⟨rfl, ⟨by omega, by omega⟩, hI.newt ha2 h4 (fun q h2 hq => ?_) (fun j hj6 => ?_) ?_ (fun j hj2 => ?_) v2 (fun i hi => ?_) ⟨⟨?_, ?_, ?_⟩, fun i hi => ?_, ⟨?_, ?_, ?_⟩, ⟨?_, ?_, ?_⟩, ?_⟩ ?_⟩
      · rw [w1 q (by omega) (by omega) (by omega) (by omega)]; exact oG q h2 (by omega) (by omega)
      · rw [w1 2 (by decide) (by decide) (by decide) (by decide), oA2 j hj6, G1 2 (by omega) (by decide)]
      · rw [w1 2 (by decide) (by decide) (by decide) (by decide)]; exact vA2
      · rw [w4 j hj2, oG 135 (by decide) (by decide) (by omega)]
      · rw [w3 i (by omega), oG 137 (by decide) (by decide) (by omega)]
      · rw [w1 102 (by decide) (by decide) (by decide) (by decide), v4]; exact vA102
      · rw [v4]; exact Int.le_refl _
      · rw [v4]; decide
      · rw [w1 103 (by decide) (by decide) (by decide) (by decide), w1 138 (by decide) (by decide) (by decide) (by decide), oG 103 (by decide) (by decide) (by omega), oG 138 (by decide) (by decide) (by omega)]; exact pb i hi
      · rw [w1 108 (by decide) (by decide) (by decide) (by decide), oA 108 (by decide) (by decide), e1, v5]
      · rw [v5]; decide
      · rw [v5]; decide
      · rw [w1 108 (by decide) (by decide) (by decide) (by decide), oA 108 (by decide) (by decide), e2, v6]
      · rw [v6]; decide
      · rw [v6]; decide
      · rw [w2, oG 134 (by decide) (by decide) (by omega)]; exact p22
      · refine newText (gc := gc) (g := g3) (gr := g3) (j := dd.length) (N := N) hk (show k ≤ 300 by omega) (fun t h => (kdF_2 hL h).2.2.1) hS hRC hRR hj hnx s3 ?_ (fun w hw => ?_) (fun w hw => ?_) (fun i hi => ?_) (fun i hi => ?_) (fun i hi => ?_) (fun i hi => ?_)
        · rw [wq _ (by omega)]; exact G2
        · rw [wq _ (by omega)]; exact G3 w hw
        · rw [wq _ (by omega)]; exact G4 w hw
        · rw [wq _ (by omega)]; exact G5 i hi
        · rw [wq _ (by omega)]; exact G6 i hi
        · rw [wq _ (by omega)]; exact G7 i hi
        · rw [wq _ (by omega)]; exact G8 i hi
  · refine mkI (ls := [some (vR 134)]) rfl rfl rfl rfl rfl (r_X12_text_0 ?_)
    rw [ha2]
    exact ⟨⟨by omega, by omega⟩, fun h => absurd (show (a2 : Int) = 4 by omega) h, fun _ => ⟨rfl, ⟨by decide, by decide⟩, hI⟩⟩
