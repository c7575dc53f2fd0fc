-- a night: what it does to the reference's cells
def dr (x : Int) : Int := (x * 347 + 229) % 30403
/-- a sign written -/
def wrA (w : Bool) (a : Nat → Int) (c p : Nat) : Nat → Int :=
  if w = true then (if a 13 = 40 then (fun k => if k = 2563 then a 10 * 64 + c * 8 + p else if 2524 ≤ k ∧ k < 2563 then a (k + 1) else a k)
    else upR (upR a (2524 + (a 13).toNat) (a 10 * 64 + c * 8 + p)) 13 (a 13 + 1)) else a
abbrev ST : Type := (Nat → Int) × Int × Int
noncomputable def g1 (w : Bool) (T : Nat → Int) (c : Nat) (s : ST) (p : Nat) : ST :=
  if s.1 (20 + 7 * p) = 0 then s else
    if s.1 12 % 10 < oddsA s.1 T (s.1 3) p c (s.1 (16 + 7 * p)) then (wrA w (upR s.1 12 (dr (s.1 12))) c p, s.2.1 + 1, ior s.2.2 ((1 : Int) * 2 ^ p)) else (upR s.1 12 (dr (s.1 12)), s.2.1, s.2.2)
def foldN (f : ST → Nat → ST) (s : ST) : Nat → ST
  | 0 => s
  | k + 1 => f (foldN f s k) k
noncomputable def gS (w : Bool) (T : Nat → Int) (n c : Nat) (s : ST) : ST := foldN (g1 w T c) s n
noncomputable def gT (w : Bool) (T : Nat → Int) (n : Nat) (s : ST) (c : Nat) : ST := foldN (fun s _ => gS w T n c s) s (tgA s.1 c)
noncomputable def gA (w : Bool) (T : Nat → Int) (n m : Nat) (s : ST) : ST := foldN (gT w T n) s m
noncomputable def tkA (T : Nat → Int) (n : Nat) (a : Nat → Int) : Nat → Int := upR a 11 (min (a 11 + sm (paF a T) n) 99999999)
def hbA (a : Nat → Int) : Nat → Nat → Int
  | 0 => a
  | p + 1 => if hbA a p (20 + 7 * p) = 1 then upR (hbA a p) (19 + 7 * p) (min (max (hbA a p (19 + 7 * p) + 1) 0) 9) else hbA a p
def ecA (a : Nat → Int) : Nat → Nat → Int
  | 0 => a
  | c + 1 => upR (ecA a c) (61 + 4 * c) 0
noncomputable def paS (w : Bool) (T : Nat → Int) (n m : Nat) (s : ST) : ST :=
  (upR (ecA (hbA (tkA T n (gA w T n m s).1) n) m) 10 (ecA (hbA (tkA T n (gA w T n m s).1) n) m 10 + 1), (gA w T n m s).2)
section CHN
variable {s nv se ts ha he le bk a s' se' ha' bk' : Nat → Int}
theorem dr_b {x : Int} (h : 0 ≤ x ∧ x ≤ 30402) : 0 ≤ dr x ∧ dr x ≤ 30402 := by unfold dr; omega
theorem RS.draw (H : RS s nv se ts ha he le bk a) (e : ∀ k, k ≠ 14 → s' k = s k) (e14 : s' 14 = dr (a 12)) : RS s' nv se ts ha he le bk (upR a 12 (dr (a 12))) := by
  have hbt := H.bits
  have hx := dr_b H.x.2
  refine RS.chg H (upR_off (by omega)) (upR_off (by omega)) (e 0 (by decide)) (e 7 (by decide)) (e 1 (by decide)) ?_ ?_ ?_ ?_ ?_ ?_ (fun p hp hq => ?_) (fun p hp => ?_) (fun p hp hq => ?_) (fun c hc hq => ?_) (fun c hc hq => ?_) (fun i hi => ?_) (fun p hp hq => ?_) (fun c hc hq => ?_)
  · rw [e 12 (by decide), upR_off (by omega)]; exact H.night
  · rw [e 13 (by decide), upR_off (by omega)]; exact H.tak
  · rw [e14, upR_at]; exact ⟨rfl, hx⟩
  · rw [e 17 (by decide), upR_off (by omega)]; exact H.wr
  · rw [e 16 (by decide)]; exact H.el
  · rw [e 2 (by decide), e 8 (by decide), e 9 (by decide)]; exact hbt.2.2
  · rw [e 2 (by decide), upR_off (by omega), upR_off (by omega), upR_off (by omega)]; exact (H.pp p hp hq).2.2.imp_right fun h => h.imp_right And.left
  · exact ⟨(H.pb p hp).2.1, (H.pb p hp).2.2.2⟩
  · rw [e 2 (by decide)]; exact (H.pr p hp hq).2
  · rw [e 8 (by decide), e 9 (by decide), upR_off (by omega), upR_off (by omega)]; exact (H.cc c hc hq).2.2
  · rw [e 8 (by decide), e 9 (by decide)]; exact H.cr c hc hq
  · rw [upR_off (by omega)] at hi
    rw [e 16 (by decide), upR_off (by omega)]; exact H.bk i hi
  · rw [upR_off (by omega), upR_off (by omega), upR_off (by omega)]; exact ⟨rfl, rfl, rfl⟩
  · rw [upR_off (by omega), upR_off (by omega)]; exact ⟨rfl, rfl⟩
theorem RS.take {v : Int} (H : RS s nv se ts ha he le bk a) (hv : 0 ≤ v ∧ v ≤ 99999999) (e : ∀ k, k ≠ 13 → s' k = s k) (e13 : s' 13 = v) : RS s' nv se ts ha he le bk (upR a 11 v) := by
  have hbt := H.bits
  refine RS.chg H (upR_off (by omega)) (upR_off (by omega)) (e 0 (by decide)) (e 7 (by decide)) (e 1 (by decide)) ?_ ?_ ?_ ?_ ?_ ?_ (fun p hp hq => ?_) (fun p hp => ?_) (fun p hp hq => ?_) (fun c hc hq => ?_) (fun c hc hq => ?_) (fun i hi => ?_) (fun p hp hq => ?_) (fun c hc hq => ?_)
  · rw [e 12 (by decide), upR_off (by omega)]; exact H.night
  · rw [e13, upR_at]; exact ⟨rfl, hv⟩
  · rw [e 14 (by decide), upR_off (by omega)]; exact H.x
  · rw [e 17 (by decide), upR_off (by omega)]; exact H.wr
  · rw [e 16 (by decide)]; exact H.el
  · rw [e 2 (by decide), e 8 (by decide), e 9 (by decide)]; exact hbt.2.2
  · rw [e 2 (by decide), upR_off (by omega), upR_off (by omega), upR_off (by omega)]; exact (H.pp p hp hq).2.2.imp_right fun h => h.imp_right And.left
  · exact ⟨(H.pb p hp).2.1, (H.pb p hp).2.2.2⟩
  · rw [e 2 (by decide)]; exact (H.pr p hp hq).2
  · rw [e 8 (by decide), e 9 (by decide), upR_off (by omega), upR_off (by omega)]; exact (H.cc c hc hq).2.2
  · rw [e 8 (by decide), e 9 (by decide)]; exact H.cr c hc hq
  · rw [upR_off (by omega)] at hi
    rw [e 16 (by decide), upR_off (by omega)]; exact H.bk i hi
  · rw [upR_off (by omega), upR_off (by omega), upR_off (by omega)]; exact ⟨rfl, rfl, rfl⟩
  · rw [upR_off (by omega), upR_off (by omega)]; exact ⟨rfl, rfl⟩
theorem RS.habit {c : Nat} {v : Int} (H : RS s nv se ts ha he le bk a) (hc : c < 6) (hq : (c : Int) < a 0) (hv : 0 ≤ v ∧ v ≤ 9) (e : ∀ k, k ≠ c → ha' k = ha k) (e8 : ha' c = v) : RS s nv se ts ha' he le bk (upR a (19 + 7 * c) v) := by
  have hbt := H.bits
  refine RS.chg H (upR_off (by omega)) (upR_off (by omega)) rfl rfl rfl ?_ ?_ ?_ ?_ H.el hbt.2.2 (fun p hp hq2 => ?_) (fun p hp => ⟨(H.pb p hp).2.1, ?_⟩) (fun p hp hq2 => ⟨(H.pr p hp hq2).2.1, ?_⟩) (fun c' hc' hq2 => ?_) (fun c' hc' hq2 => H.cr c' hc' hq2) (fun i hi => ?_) (fun p hp hq2 => ?_) (fun c' hc' hq2 => ?_)
  · rw [upR_off (by omega)]; exact H.night
  · rw [upR_off (by omega)]; exact H.tak
  · rw [upR_off (by omega)]; exact H.x
  · rw [upR_off (by omega)]; exact H.wr
  · rw [upR_off (k := 20 + 7 * p) (by omega), upR_off (k := 18 + 7 * p) (by omega)]
    have := H.pp p hp hq2
    by_cases h : p = c
    · subst h; rw [upR_at, e8]; exact ⟨this.2.2.1, rfl, this.2.2.2.2.1⟩
    · rw [e p h, upR_off (by omega)]; exact ⟨this.2.2.1, this.2.2.2.1, this.2.2.2.2.1⟩
  · by_cases h : p = c
    · subst h; rw [e8]; exact hv
    · rw [e p h]; exact (H.pb p hp).2.2.2
  · rw [e p (by omega)]; exact (H.pr p hp hq2).2.2
  · rw [upR_off (by omega), upR_off (by omega)]; exact (H.cc c' hc' hq2).2.2
  · rw [upR_off (by omega)] at hi
    rw [upR_off (by omega)]; exact H.bk i hi
  · rw [upR_off (by omega), upR_off (by omega), upR_off (by omega)]; exact ⟨rfl, rfl, rfl⟩
  · rw [upR_off (by omega), upR_off (by omega)]; exact ⟨rfl, rfl⟩
theorem RS.fin {b : Nat → Int} (H : RS s nv se ts ha he le bk a) (hn : a 10 < 9999) (e : ∀ k, k ≠ 9 → k ≠ 12 → s' k = s k) (e9 : s' 9 = 0) (e12 : s' 12 = s 12 + 1) (b10 : b 10 = a 10 + 1) (be : ∀ c : Nat, c < 7 → (c : Int) < a 1 → b (61 + 4 * c) = 0) (bo : ∀ k : Nat, k ≠ 10 → (∀ c : Nat, c < 7 → (c : Int) < a 1 → k ≠ 61 + 4 * c) → b k = a k) : RS s' nv se ts ha he le bk b := by
  have hbt := H.bits
  have hnt := H.night
  have h0 : ∀ c, bt 0 c = 0 := fun c => by unfold bt; rw [Int.zero_ediv]; rfl
  have b13 := bo 13 (by decide) (fun c _ _ => by omega)
  refine RS.chg H (bo 0 (by decide) (fun c _ _ => by omega)) (bo 1 (by decide) (fun c _ _ => by omega)) (e 0 (by decide) (by decide)) (e 7 (by decide) (by decide)) (e 1 (by decide) (by decide)) ?_ ?_ ?_ ?_ ?_ ?_ (fun p hp hq => ?_) (fun p hp => ?_) (fun p hp hq => ?_) (fun c hc hq => ?_) (fun c hc hq => ?_) (fun i hi => ?_) (fun p hp hq => ?_) (fun c hc hq => ?_)
  · rw [e12, b10]; omega
  · rw [e 13 (by decide) (by decide), bo 11 (by decide) (fun c _ _ => by omega)]; exact H.tak
  · rw [e 14 (by decide) (by decide), bo 12 (by decide) (fun c _ _ => by omega)]; exact H.x
  · rw [e 17 (by decide) (by decide), b13]; exact H.wr
  · rw [e 16 (by decide) (by decide)]; exact H.el
  · rw [e 2 (by decide) (by decide), e 8 (by decide) (by decide), e9]; exact ⟨hbt.2.2.1, hbt.2.2.2.1, hbt.2.2.2.2.1, hbt.2.2.2.2.2.1, by decide, by decide⟩
  · rw [e 2 (by decide) (by decide), bo (18 + 7 * p) (by omega) (fun c _ _ => by omega), bo (19 + 7 * p) (by omega) (fun c _ _ => by omega), bo (20 + 7 * p) (by omega) (fun c _ _ => by omega)]; exact (H.pp p hp hq).2.2.imp_right fun h => h.imp_right And.left
  · exact ⟨(H.pb p hp).2.1, (H.pb p hp).2.2.2⟩
  · rw [e 2 (by decide) (by decide)]; exact (H.pr p hp hq).2
  · rw [e 8 (by decide) (by decide), e9, be c hc hq, h0, bo (60 + 4 * c) (by omega) (fun c' _ _ => by omega)]; exact ⟨(H.cc c hc hq).2.2.1, rfl⟩
  · rw [e 8 (by decide) (by decide), e9, h0]; exact ⟨(H.cr c hc hq).1, rfl⟩
  · rw [b13] at hi
    have := H.wr
    rw [e 16 (by decide) (by decide), bo (2524 + i) (by omega) (fun c _ _ => by omega)]; exact H.bk i hi
  · rw [bo (16 + 7 * p) (by omega) (fun c _ _ => by omega), bo (17 + 7 * p) (by omega) (fun c _ _ => by omega), bo (21 + 7 * p) (by omega) (fun c _ _ => by omega)]; exact ⟨rfl, rfl, rfl⟩
  · rw [bo (58 + 4 * c) (by omega) (fun c' _ _ => by omega), bo (59 + 4 * c) (by omega) (fun c' _ _ => by omega)]; exact ⟨rfl, rfl⟩
theorem RS.write {c p : Nat} {z : Int} (H : RS s nv se ts ha he le bk a) (hp : p < 6) (hpa : (p : Int) < a 0) (hc : c < 7) (hca : (c : Int) < a 1) (hz : z = (s 16 + s 17) % 40)
    (e : ∀ k, k ≠ 16 → k ≠ 17 → s' k = s k) (e40 : a 13 = 40 → s' 16 = (s 16 + 1) % 40 ∧ s' 17 = s 17) (e39 : a 13 ≠ 40 → s' 16 = s 16 ∧ s' 17 = s 17 + 1) (eb : ∀ k, k ≠ z.toNat → bk' k = bk k) (eb2 : bk' z.toNat = ((s 12 * 8) + c) * 8 + p) : RS s' nv se ts ha he le bk' (wrA true a c p) := by
  have hbt := H.bits
  have hw := H.wr
  have hel := H.el
  have hnt := H.night
  have hlow : ∀ k, k ≠ 13 → k < 2524 → wrA true a c p k = a k := by
    intro k h1 h2
    unfold wrA
    rw [if_pos rfl]
    split
    · show (if k = 2563 then _ else if 2524 ≤ k ∧ k < 2563 then _ else a k) = a k
      rw [if_neg (by omega), if_neg (by omega)]
    · rw [upR_off h1, upR_off (by omega)]
  have h13 : s' 17 = wrA true a c p 13 ∧ 0 ≤ wrA true a c p 13 ∧ wrA true a c p 13 ≤ 40 := by
    unfold wrA
    rw [if_pos rfl]
    by_cases h : a 13 = 40
    · rw [if_pos h]
      show s' 17 = (if 13 = 2563 then _ else if 2524 ≤ 13 ∧ 13 < 2563 then _ else a 13) ∧ 0 ≤ (if 13 = 2563 then _ else if 2524 ≤ 13 ∧ 13 < 2563 then _ else a 13) ∧ (if 13 = 2563 then _ else if 2524 ≤ 13 ∧ 13 < 2563 then _ else a 13) ≤ 40
      have := e40 h
      rw [if_neg (by decide), if_neg (by decide)]
      omega
    · rw [if_neg h, upR_at]
      have := e39 h
      omega
  refine RS.chg H (hlow 0 (by decide) (by decide)) (hlow 1 (by decide) (by decide)) (e 0 (by decide) (by decide)) (e 7 (by decide) (by decide)) (e 1 (by decide) (by decide)) ?_ ?_ ?_ h13 ?_ ?_ (fun p hp hq => ?_) (fun p hp => ?_) (fun p hp hq => ?_) (fun c hc hq => ?_) (fun c hc hq => ?_) (fun i hi => ?_) (fun p hp hq => ?_) (fun c hc hq => ?_)
  · rw [e 12 (by decide) (by decide), hlow 10 (by decide) (by decide)]; exact H.night
  · rw [e 13 (by decide) (by decide), hlow 11 (by decide) (by decide)]; exact H.tak
  · rw [e 14 (by decide) (by decide), hlow 12 (by decide) (by decide)]; exact H.x
  · by_cases h : a 13 = 40
    · have := e40 h; omega
    · have := e39 h; omega
  · rw [e 2 (by decide) (by decide), e 8 (by decide) (by decide), e 9 (by decide) (by decide)]; exact hbt.2.2
  · rw [e 2 (by decide) (by decide), hlow _ (by omega) (by omega), hlow _ (by omega) (by omega), hlow _ (by omega) (by omega)]; exact (H.pp p hp hq).2.2.imp_right fun h => h.imp_right And.left
  · exact ⟨(H.pb p hp).2.1, (H.pb p hp).2.2.2⟩
  · rw [e 2 (by decide) (by decide)]; exact (H.pr p hp hq).2
  · rw [e 8 (by decide) (by decide), e 9 (by decide) (by decide), hlow _ (by omega) (by omega), hlow _ (by omega) (by omega)]; exact (H.cc c hc hq).2.2
  · rw [e 8 (by decide) (by decide), e 9 (by decide) (by decide)]; exact H.cr c hc hq
  · by_cases h : a 13 = 40
    · have e1 := e40 h
      have hi' : i < 40 := by omega
      rw [e1.1]
      have hwa : wrA true a c p (2524 + i) = if i = 39 then a 10 * 64 + c * 8 + p else a (2524 + (i + 1)) := by
        unfold wrA
        rw [if_pos rfl, if_pos h]
        show (if 2524 + i = 2563 then _ else if 2524 ≤ 2524 + i ∧ 2524 + i < 2563 then a (2524 + i + 1) else a (2524 + i)) = _
        by_cases h39 : i = 39
        · rw [if_pos (by omega), if_pos h39]
        · rw [if_neg (by omega), if_pos (by omega), if_neg h39]; rfl
      rw [hwa]
      by_cases h39 : i = 39
      · rw [if_pos h39, show (((s 16 + 1) % 40 + (i : Int)) % 40).toNat = z.toNat by omega, eb2]
        refine ⟨by omega, by omega, by omega, by omega, by omega⟩
      · rw [if_neg h39, eb _ (by omega), show (((s 16 + 1) % 40 + (i : Int)) % 40).toNat = ((s 16 + ((i + 1 : Nat) : Int)) % 40).toNat by omega]
        exact H.bk (i + 1) (by omega)
    · have e1 := e39 h
      have hwa : ∀ j : Nat, j < 40 → wrA true a c p (2524 + j) = if (j : Int) = a 13 then a 10 * 64 + c * 8 + p else a (2524 + j) := by
        intro j hj
        unfold wrA
        rw [if_pos rfl, if_neg h, upR_off (by omega)]
        unfold upR
        by_cases h9 : (j : Int) = a 13
        · rw [if_pos (by omega), if_pos h9]
        · rw [if_neg (by omega), if_neg h9]
      have h13' : wrA true a c p 13 = a 13 + 1 := by unfold wrA; rw [if_pos rfl, if_neg h, upR_at]
      rw [h13'] at hi
      rw [e1.1, hwa i (by omega)]
      by_cases h9 : (i : Int) = a 13
      · rw [if_pos h9, show ((s 16 + (i : Int)) % 40).toNat = z.toNat by omega, eb2]
        refine ⟨by omega, by omega, by omega, by omega, by omega⟩
      · rw [if_neg h9, eb _ (by omega)]
        exact H.bk i (by omega)
  · rw [hlow _ (by omega) (by omega), hlow _ (by omega) (by omega), hlow _ (by omega) (by omega)]; exact ⟨rfl, rfl, rfl⟩
  · rw [hlow _ (by omega) (by omega), hlow _ (by omega) (by omega)]; exact ⟨rfl, rfl⟩
end CHN
