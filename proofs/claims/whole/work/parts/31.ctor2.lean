section CT2
abbrev CS : Type := Nat × Nat × Nat × LV × List V × HC
def exS (i : Instr) (y : Int) : Nat := match i with
  | .goto _ => 1
  | .if_icmp c _ => match c with | .ge => 2 | _ => 0
  | .return_ => 3
  | .invokespecial _ => if y = -1 then 0 else 4
  | _ => 0
def rcv (N : Nat) (st : List V) : Bool := match st.drop (N - 1) with
  | .inr (.inr (.inl p)) :: _ => p != 0
  | _ => false
/-- the run of a constructor, on lists; none: it stopped at an instruction that the table lacks -/
def ex (tab : Nat → Nat → Option Ins) : Nat → Nat → Nat → Nat → Nat → Nat → LV → List V → HC → Option (Option V × CS)
  | 0, _, _, _, _, _, _, _, _ => none
  | f + 1, d, M, k, n, pc, ls, st, H => match tab M pc with
    | none => some (none, pc, k, n, ls, st, H)
    | some e => match exS e.2.1 e.2.2.2.2 with
      | 0 => match sx e.2.1 e.2.2.2.1 e.2.2.2.2 k n ls st H with
        | some (k', n', ls', st', H') => ex tab f d M k' n' (pc + e.2.2.1) ls' st' H'
        | none => none
      | 1 => match e.2.1 with
        | .goto off => ex tab f d M k n (jmp pc off) ls st H
        | _ => none
      | 2 => match e.2.1, st with
        | .if_icmp .ge off, .inl b :: .inl a :: s => if i32 a ∧ i32 b then (if b ≤ a then ex tab f d M k n (jmp pc off) ls s H else ex tab f d M k n (pc + e.2.2.1) ls s H) else none
        | _, _ => none
      | 3 => match st with
        | [] => some (some (vI 0), 0, 0, 0, [], [], H)
        | _ => none
      | _ => match d with
        | 0 => none
        | d + 1 => if rcv (e.2.2.2.2.toNat / 2) st = true ∧ (Pmc e.2.2.2.1.toNat ≤ k ∧ Pms e.2.2.2.1.toNat ≤ n) ∧ (e.2.2.2.2.toNat / 2 ≤ st.length ∧ csum (st.drop (e.2.2.2.2.toNat / 2)) ≤ 8) ∧ e.2.2.2.1.toNat < 364 ∧ (argL (st.take (e.2.2.2.2.toNat / 2)).reverse).length ≤ PnL e.2.2.2.1.toNat then
            (match ex tab f d e.2.2.2.1.toNat (Pmc e.2.2.2.1.toNat) (Pms e.2.2.2.1.toNat) 0 (padL (PnL e.2.2.2.1.toNat) (argL (st.take (e.2.2.2.2.toNat / 2)).reverse)) [] H with
            | some (some r, _, _, _, _, _, H') => ex tab f (d + 1) M (k - Pmc e.2.2.2.1.toNat) (n - Pms e.2.2.2.1.toNat) (pc + e.2.2.1) ls (pushv (e.2.2.2.2.toNat % 2 == 1) r (st.drop (e.2.2.2.2.toNat / 2))) H'
            | _ => none) else none
theorem exS_spec (i : Instr) (y : Int) : exS i y ≤ 3 ∨ ∃ j, i = .invokespecial j ∧ ¬ y = -1 := by
  unfold exS
  split
  · exact Or.inl (by omega)
  · split <;> exact Or.inl (by omega)
  · exact Or.inl (by omega)
  · rename_i j
    by_cases hy : y = -1
    · rw [if_pos hy]; exact Or.inl (by omega)
    · exact Or.inr ⟨j, rfl, hy⟩
  · exact Or.inl (by omega)
theorem rcv_ok {N : Nat} {st : List V} (h : rcv N st = true) : (match st.drop (N - 1) with | .inr (.inr (.inl p)) :: _ => p ≠ 0 | _ => False) := by
  unfold rcv at h
  split at h
  · exact bne_iff_ne.mp h
  · cases h
theorem stp_inv {sc : List Int} {J : Nat → Nat → Nat → LV → List V → HS → Prop} {Rt : V → HS → Prop} {Cl : Nat → List V → HS → (V → HS → Prop) → Prop} {kk : Nat → Nat → LV → List V → HS → Prop} {pc j : Nat} {x y : Int} {k n : Nat} {ls : LV} {st : List V} {H : HS} (hy : ¬ y = -1)
    (h : (match st.drop (y.toNat / 2 - 1) with | .inr (.inr (.inl p)) :: _ => p ≠ 0 | _ => False) ∧ (Pmc x.toNat ≤ k ∧ Pms x.toNat ≤ n) ∧ (y.toNat / 2 ≤ st.length ∧ csum (st.drop (y.toNat / 2)) ≤ 8) ∧ Cl x.toNat (st.take (y.toNat / 2)).reverse H (fun r H' => kk (k - Pmc x.toNat) (n - Pms x.toNat) ls (pushv (y.toNat % 2 == 1) r (st.drop (y.toNat / 2))) H')) :
    stp sc J Rt Cl pc (.invokespecial j) x y kk k n ls st H := by
  dsimp only [stp]
  split
  · exact absurd rfl hy
  · exact h
theorem ex_ok {tab : Nat → Nat → Option Ins} (ht : ∀ M pc e, tab M pc = some e → e.1 = pc ∧ okL M [e, (pc + e.2.2.1, .nop, 0, 0, 0)] = true) (c : Nat) : ∀ f d M k n pc ls st H o pc' k' n' ls' st' H', ex tab f d M k n pc ls st H = some (o, pc', k', n', ls', st', H') →
    ∀ Q : V → HS → Prop, (match o with | some r => Q r (toH H') | none => Reach (d + c) M k' n' pc' ls' st' (toH H') Q) → Reach (d + c) M k n pc ls st (toH H) Q := by
  intro f
  induction f with
  | zero => intro d M k n pc ls st H o pc' k' n' ls' st' H' h; cases h
  | succ f ih =>
    intro d M k n pc ls st H o pc' k' n' ls' st' H' h Q hQ
    unfold ex at h
    split at h
    · cases h; exact hQ
    · rename_i e hte
      obtain ⟨h1, h2⟩ := ht M pc e hte
      obtain ⟨pc0, i, L, x, y⟩ := e
      have h1' : pc0 = pc := h1
      subst h1'
      have hgo := fun hw => go2 (d := d + c) (M := M) (k := k) (n := n) (ls := ls) (st := st) (H := toH H) (Q := Q) h2 rfl hw
      simp only at h
      split at h
      · split at h
        · rename_i k1 n1 ls1 st1 H1 hs
          exact hgo (fun sc => sx_ok hs (ih _ _ _ _ _ _ _ _ _ _ _ _ _ _ _ h Q hQ))
        · cases h
      · split at h
        · exact hgo (fun sc => ih _ _ _ _ _ _ _ _ _ _ _ _ _ _ _ h Q hQ)
        · cases h
      · split at h
        · split at h
          · rename_i hi
            split at h
            · rename_i hb
              exact hgo (fun sc => ⟨hi, fun _ => ih _ _ _ _ _ _ _ _ _ _ _ _ _ _ _ h Q hQ, fun q => absurd hb q⟩)
            · rename_i hb
              exact hgo (fun sc => ⟨hi, fun q => absurd q hb, fun _ => ih _ _ _ _ _ _ _ _ _ _ _ _ _ _ _ h Q hQ⟩)
          · cases h
        · cases h
      · rename_i he
        split at h
        · cases h
          refine hgo (fun sc => ?_)
          have hi : i = .return_ := by
            unfold exS at he; split at he <;> first | rfl | (split at he <;> cases he) | cases he
          subst hi
          exact hQ
        · cases h
      · rename_i he0 he1 he2 he3
        split at h
        · cases h
        · rename_i d
          split at h
          · rename_i hc
            split at h
            · rename_i r q1 q2 q3 q4 q5 H1 hr
              rcases exS_spec i y with h9 | ⟨j, hi, hy⟩
              · exact absurd h9 (by
                  intro h9
                  have : exS i y = 0 ∨ exS i y = 1 ∨ exS i y = 2 ∨ exS i y = 3 := by omega
                  rcases this with q | q | q | q
                  · exact he0 q
                  · exact he1 q
                  · exact he2 q
                  · exact he3 q)
              subst hi
              have e9 : d + 1 + c = (d + c) + 1 := by omega
              refine hgo (fun sc => stp_inv hy ⟨rcv_ok hc.1, hc.2.1, hc.2.2.1, ?_⟩)
              have hb := ih _ _ _ _ _ _ _ _ _ _ _ _ _ _ _ hr
              have hcall : CallM (d + c + 1) x.toNat (st.take (y.toNat / 2)).reverse (toH H) (fun v Hv => v = r ∧ Hv = toH H1) := call hc.2.2.2.1 hc.2.2.2.2 (hb _ ⟨rfl, rfl⟩)
              rw [e9]
              refine CallM.mono hcall ?_
              intro v Hv hv
              obtain ⟨hv1, hv2⟩ := hv
              subst hv1; subst hv2
              rw [← e9]
              exact ih _ _ _ _ _ _ _ _ _ _ _ _ _ _ _ h Q hQ
            · cases h
          · cases h
def ct_0 : List Ins := [(0, .aload_n 0, 1, 0, 0), (1, .invokespecial 3, 3, 0, (-1)), (4, .aload_n 0, 1, 0, 0), (5, .aload_n 1, 1, 0, 0), (6, .putfield 9, 3, 0, 0), (9, .aload_n 0, 1, 0, 0), (10, .aload_n 1, 1, 0, 0), (11, .getfield 15, 3, 1, 0), (14, .putfield 21, 3, 0, 1), (17, .aload_n 0, 1, 0, 0), (18, .aload_n 1, 1, 0, 0), (19, .getfield 22, 3, 1, 1), (22, .putfield 26, 3, 0, 2), (25, .aload_n 0, 1, 0, 0), (26, .aload_n 2, 1, 0, 0), (27, .putfield 27, 3, 0, 3), (30, .return_, 1, 0, 0)]
theorem ct_0_ok : (ct_0.all fun e => okL 0 [e, (e.1 + e.2.2.1, .nop, 0, 0, 0)]) = true := by decide +kernel
def ct_9 : List Ins := [(0, .aload_n 0, 1, 0, 0), (1, .invokespecial 3, 3, 0, (-1)), (4, .aload_n 0, 1, 0, 0), (5, .new 9, 3, 7, 0), (8, .dup, 1, 0, 0), (9, .invokespecial 11, 3, 74, 3), (12, .putfield 12, 3, 1, 0), (15, .aload_n 0, 1, 0, 0), (16, .new 18, 3, 3, 0), (19, .dup, 1, 0, 0), (20, .invokespecial 20, 3, 25, 3), (23, .putfield 21, 3, 1, 1), (26, .aload_n 0, 1, 0, 0), (27, .bipush 30, 2, 0, 0), (29, .bipush 62, 2, 0, 0), (31, .multianewarray 25 2, 4, 0, 0), (35, .putfield 27, 3, 1, 2), (38, .aload_n 0, 1, 0, 0), (39, .iconst 4, 1, 0, 0), (40, .anewarray 30, 3, 0, 0), (43, .putfield 32, 3, 1, 5), (46, .aload_n 0, 1, 0, 0), (47, .iconst (-1), 1, 0, 0), (48, .putfield 36, 3, 1, 7), (51, .return_, 1, 0, 0)]
theorem ct_9_ok : (ct_9.all fun e => okL 9 [e, (e.1 + e.2.2.1, .nop, 0, 0, 0)]) = true := by decide +kernel
def ct_17 : List Ins := [(0, .aload_n 0, 1, 0, 0), (1, .invokespecial 5, 3, 0, (-1)), (4, .aload_n 0, 1, 0, 0), (5, .bipush 9, 2, 0, 0), (7, .newarray .int, 2, 0, 0), (9, .putfield 13, 3, 2, 1), (12, .aload_n 0, 1, 0, 0), (13, .bipush 40, 2, 0, 0), (15, .newarray .int, 2, 0, 0), (17, .putfield 17, 3, 2, 2), (20, .aload_n 0, 1, 0, 0), (21, .aload_n 1, 1, 0, 0), (22, .putfield 20, 3, 2, 0), (25, .return_, 1, 0, 0)]
theorem ct_17_ok : (ct_17.all fun e => okL 17 [e, (e.1 + e.2.2.1, .nop, 0, 0, 0)]) = true := by decide +kernel
def ct_25 : List Ins := [(0, .aload_n 0, 1, 0, 0), (1, .invokespecial 3, 3, 0, (-1)), (4, .aload_n 0, 1, 0, 0), (5, .bipush 6, 2, 0, 0), (7, .newarray .int, 2, 0, 0), (9, .putfield 9, 3, 3, 0), (12, .aload_n 0, 1, 0, 0), (13, .bipush 9, 2, 0, 0), (15, .newarray .int, 2, 0, 0), (17, .putfield 15, 3, 3, 1), (20, .aload_n 0, 1, 0, 0), (21, .iconst 4, 1, 0, 0), (22, .newarray .int, 2, 0, 0), (24, .putfield 18, 3, 3, 2), (27, .aload_n 0, 1, 0, 0), (28, .iconst 4, 1, 0, 0), (29, .bipush 8, 2, 0, 0), (31, .multianewarray 21 2, 4, 0, 0), (35, .putfield 23, 3, 3, 3), (38, .iconst 0, 1, 0, 0), (39, .istore_n 1, 1, 0, 0), (40, .iload_n 1, 1, 0, 0), (41, .bipush 6, 2, 0, 0), (43, .if_icmp .ge 16, 3, 0, 0), (46, .aload_n 0, 1, 0, 0), (47, .getfield 9, 3, 3, 0), (50, .iload_n 1, 1, 0, 0), (51, .iconst 1, 1, 0, 0), (52, .iastore, 1, 0, 0), (53, .iinc 1 1, 3, 0, 0), (56, .goto (-16), 3, 0, 0), (59, .return_, 1, 0, 0)]
theorem ct_25_ok : (ct_25.all fun e => okL 25 [e, (e.1 + e.2.2.1, .nop, 0, 0, 0)]) = true := by decide +kernel
def ct_32 : List Ins := [(0, .aload_n 0, 1, 0, 0), (1, .invokespecial 3, 3, 0, (-1)), (4, .aload_n 0, 1, 0, 0), (5, .bipush 7, 2, 0, 0), (7, .newarray .int, 2, 0, 0), (9, .putfield 9, 3, 4, 3), (12, .aload_n 0, 1, 0, 0), (13, .bipush 7, 2, 0, 0), (15, .newarray .int, 2, 0, 0), (17, .putfield 15, 3, 4, 4), (20, .aload_n 0, 1, 0, 0), (21, .bipush 7, 2, 0, 0), (23, .newarray .int, 2, 0, 0), (25, .putfield 18, 3, 4, 5), (28, .aload_n 0, 1, 0, 0), (29, .bipush 7, 2, 0, 0), (31, .newarray .int, 2, 0, 0), (33, .putfield 21, 3, 4, 6), (36, .aload_n 0, 1, 0, 0), (37, .sipush 128, 3, 0, 0), (40, .newarray .int, 2, 0, 0), (42, .putfield 24, 3, 4, 7), (45, .aload_n 0, 1, 0, 0), (46, .aload_n 1, 1, 0, 0), (47, .getfield 27, 3, 1, 0), (50, .putfield 33, 3, 4, 0), (53, .aload_n 0, 1, 0, 0), (54, .aload_n 1, 1, 0, 0), (55, .getfield 34, 3, 1, 1), (58, .putfield 38, 3, 4, 1), (61, .aload_n 0, 1, 0, 0), (62, .aload_n 2, 1, 0, 0), (63, .putfield 39, 3, 4, 2), (66, .return_, 1, 0, 0)]
theorem ct_32_ok : (ct_32.all fun e => okL 32 [e, (e.1 + e.2.2.1, .nop, 0, 0, 0)]) = true := by decide +kernel
def ct_41 : List Ins := [(0, .aload_n 0, 1, 0, 0), (1, .invokespecial 3, 3, 0, (-1)), (4, .aload_n 0, 1, 0, 0), (5, .bipush 6, 2, 0, 0), (7, .newarray .int, 2, 0, 0), (9, .putfield 9, 3, 5, 3), (12, .aload_n 0, 1, 0, 0), (13, .bipush 62, 2, 0, 0), (15, .newarray .int, 2, 0, 0), (17, .putfield 17, 3, 5, 4), (20, .aload_n 0, 1, 0, 0), (21, .aload_n 1, 1, 0, 0), (22, .putfield 20, 3, 5, 0), (25, .aload_n 0, 1, 0, 0), (26, .aload_n 1, 1, 0, 0), (27, .getfield 24, 3, 1, 0), (30, .putfield 30, 3, 5, 1), (33, .aload_n 0, 1, 0, 0), (34, .aload_n 2, 1, 0, 0), (35, .putfield 31, 3, 5, 2), (38, .return_, 1, 0, 0)]
theorem ct_41_ok : (ct_41.all fun e => okL 41 [e, (e.1 + e.2.2.1, .nop, 0, 0, 0)]) = true := by decide +kernel
def ct_58 : List Ins := [(0, .aload_n 0, 1, 0, 0), (1, .invokespecial 3, 3, 0, (-1)), (4, .aload_n 0, 1, 0, 0), (5, .iconst (-1), 1, 0, 0), (6, .putfield 9, 3, 6, 1), (9, .aload_n 0, 1, 0, 0), (10, .iconst (-1), 1, 0, 0), (11, .putfield 15, 3, 6, 2), (14, .aload_n 0, 1, 0, 0), (15, .bipush 24, 2, 0, 0), (17, .newarray .int, 2, 0, 0), (19, .putfield 18, 3, 6, 7), (22, .aload_n 0, 1, 0, 0), (23, .bipush 24, 2, 0, 0), (25, .newarray .int, 2, 0, 0), (27, .putfield 22, 3, 6, 8), (30, .aload_n 0, 1, 0, 0), (31, .bipush 24, 2, 0, 0), (33, .newarray .int, 2, 0, 0), (35, .putfield 25, 3, 6, 9), (38, .aload_n 0, 1, 0, 0), (39, .sipush 300, 3, 0, 0), (42, .newarray .int, 2, 0, 0), (44, .putfield 30, 3, 6, 11), (47, .aload_n 0, 1, 0, 0), (48, .iconst 3, 1, 0, 0), (49, .newarray .int, 2, 0, 0), (51, .putfield 33, 3, 6, 12), (54, .aload_n 0, 1, 0, 0), (55, .iconst 3, 1, 0, 0), (56, .newarray .int, 2, 0, 0), (58, .putfield 36, 3, 6, 13), (61, .aload_n 0, 1, 0, 0), (62, .aload_n 1, 1, 0, 0), (63, .putfield 39, 3, 6, 0), (66, .return_, 1, 0, 0)]
theorem ct_58_ok : (ct_58.all fun e => okL 58 [e, (e.1 + e.2.2.1, .nop, 0, 0, 0)]) = true := by decide +kernel
def ct_74 : List Ins := [(0, .aload_n 0, 1, 0, 0), (1, .invokespecial 3, 3, 0, (-1)), (4, .aload_n 0, 1, 0, 0), (5, .bipush 6, 2, 0, 0), (7, .newarray .int, 2, 0, 0), (9, .putfield 9, 3, 7, 3), (12, .aload_n 0, 1, 0, 0), (13, .bipush 6, 2, 0, 0), (15, .newarray .int, 2, 0, 0), (17, .putfield 15, 3, 7, 4), (20, .aload_n 0, 1, 0, 0), (21, .bipush 6, 2, 0, 0), (23, .newarray .int, 2, 0, 0), (25, .putfield 18, 3, 7, 5), (28, .aload_n 0, 1, 0, 0), (29, .bipush 6, 2, 0, 0), (31, .newarray .int, 2, 0, 0), (33, .putfield 21, 3, 7, 6), (36, .aload_n 0, 1, 0, 0), (37, .bipush 7, 2, 0, 0), (39, .newarray .int, 2, 0, 0), (41, .putfield 24, 3, 7, 10), (44, .aload_n 0, 1, 0, 0), (45, .bipush 7, 2, 0, 0), (47, .newarray .int, 2, 0, 0), (49, .putfield 27, 3, 7, 11), (52, .aload_n 0, 1, 0, 0), (53, .bipush 40, 2, 0, 0), (55, .newarray .int, 2, 0, 0), (57, .putfield 30, 3, 7, 15), (60, .aload_n 0, 1, 0, 0), (61, .bipush 113, 2, 0, 0), (63, .putfield 33, 3, 7, 14), (66, .return_, 1, 0, 0)]
theorem ct_74_ok : (ct_74.all fun e => okL 74 [e, (e.1 + e.2.2.1, .nop, 0, 0, 0)]) = true := by decide +kernel
def ct_107 : List Ins := [(0, .aload_n 0, 1, 0, 0), (1, .invokespecial 3, 3, 0, (-1)), (4, .aload_n 0, 1, 0, 0), (5, .sipush 300, 3, 0, 0), (8, .newarray .int, 2, 0, 0), (10, .putfield 11, 3, 8, 0), (13, .aload_n 0, 1, 0, 0), (14, .sipush 301, 3, 0, 0), (17, .newarray .int, 2, 0, 0), (19, .putfield 15, 3, 8, 2), (22, .aload_n 0, 1, 0, 0), (23, .sipush 301, 3, 0, 0), (26, .newarray .int, 2, 0, 0), (28, .putfield 18, 3, 8, 3), (31, .aload_n 0, 1, 0, 0), (32, .sipush 301, 3, 0, 0), (35, .newarray .int, 2, 0, 0), (37, .putfield 21, 3, 8, 4), (40, .aload_n 0, 1, 0, 0), (41, .sipush 301, 3, 0, 0), (44, .newarray .int, 2, 0, 0), (46, .putfield 24, 3, 8, 5), (49, .aload_n 0, 1, 0, 0), (50, .iconst 0, 1, 0, 0), (51, .putfield 27, 3, 8, 1), (54, .return_, 1, 0, 0)]
theorem ct_107_ok : (ct_107.all fun e => okL 107 [e, (e.1 + e.2.2.1, .nop, 0, 0, 0)]) = true := by decide +kernel
def ct_124 : List Ins := [(0, .aload_n 0, 1, 0, 0), (1, .invokespecial 3, 3, 0, (-1)), (4, .aload_n 0, 1, 0, 0), (5, .bipush 6, 2, 0, 0), (7, .newarray .int, 2, 0, 0), (9, .putfield 9, 3, 10, 2), (12, .aload_n 0, 1, 0, 0), (13, .bipush 6, 2, 0, 0), (15, .newarray .int, 2, 0, 0), (17, .putfield 15, 3, 10, 3), (20, .aload_n 0, 1, 0, 0), (21, .bipush 6, 2, 0, 0), (23, .newarray .int, 2, 0, 0), (25, .putfield 18, 3, 10, 4), (28, .aload_n 0, 1, 0, 0), (29, .bipush 6, 2, 0, 0), (31, .newarray .int, 2, 0, 0), (33, .putfield 21, 3, 10, 5), (36, .aload_n 0, 1, 0, 0), (37, .bipush 6, 2, 0, 0), (39, .newarray .int, 2, 0, 0), (41, .putfield 24, 3, 10, 6), (44, .aload_n 0, 1, 0, 0), (45, .aload_n 1, 1, 0, 0), (46, .getfield 27, 3, 1, 0), (49, .putfield 33, 3, 10, 0), (52, .aload_n 0, 1, 0, 0), (53, .aload_n 1, 1, 0, 0), (54, .getfield 34, 3, 1, 1), (57, .putfield 38, 3, 10, 1), (60, .return_, 1, 0, 0)]
theorem ct_124_ok : (ct_124.all fun e => okL 124 [e, (e.1 + e.2.2.1, .nop, 0, 0, 0)]) = true := by decide +kernel
def ct_137 : List Ins := [(0, .aload_n 0, 1, 0, 0), (1, .invokespecial 1, 3, 0, (-1)), (4, .aload_n 0, 1, 0, 0), (5, .new 7, 3, 1, 0), (8, .dup, 1, 0, 0), (9, .invokespecial 9, 3, 9, 3), (12, .putfield 10, 3, 11, 0), (15, .aload_n 0, 1, 0, 0), (16, .new 7, 3, 1, 0), (19, .dup, 1, 0, 0), (20, .invokespecial 9, 3, 9, 3), (23, .putfield 16, 3, 11, 1), (26, .aload_n 0, 1, 0, 0), (27, .new 19, 3, 8, 0), (30, .dup, 1, 0, 0), (31, .invokespecial 21, 3, 107, 3), (34, .putfield 22, 3, 11, 2), (37, .aload_n 0, 1, 0, 0), (38, .new 26, 3, 6, 0), (41, .dup, 1, 0, 0), (42, .aload_n 0, 1, 0, 0), (43, .getfield 22, 3, 11, 2), (46, .invokespecial 28, 3, 58, 5), (49, .putfield 31, 3, 11, 3), (52, .aload_n 0, 1, 0, 0), (53, .new 35, 3, 2, 0), (56, .dup, 1, 0, 0), (57, .aload_n 0, 1, 0, 0), (58, .getfield 10, 3, 11, 0), (61, .invokespecial 37, 3, 17, 5), (64, .putfield 40, 3, 11, 4), (67, .aload_n 0, 1, 0, 0), (68, .new 44, 3, 5, 0), (71, .dup, 1, 0, 0), (72, .aload_n 0, 1, 0, 0), (73, .getfield 10, 3, 11, 0), (76, .aload_n 0, 1, 0, 0), (77, .getfield 40, 3, 11, 4), (80, .invokespecial 46, 3, 41, 7), (83, .putfield 49, 3, 11, 5), (86, .aload_n 0, 1, 0, 0), (87, .new 53, 3, 0, 0), (90, .dup, 1, 0, 0), (91, .aload_n 0, 1, 0, 0), (92, .getfield 10, 3, 11, 0), (95, .aload_n 0, 1, 0, 0), (96, .getfield 40, 3, 11, 4), (99, .invokespecial 55, 3, 0, 7), (102, .putfield 56, 3, 11, 6), (105, .aload_n 0, 1, 0, 0), (106, .new 60, 3, 4, 0), (109, .dup, 1, 0, 0), (110, .aload_n 0, 1, 0, 0), (111, .getfield 10, 3, 11, 0), (114, .aload_n 0, 1, 0, 0), (115, .getfield 40, 3, 11, 4), (118, .invokespecial 62, 3, 32, 7), (121, .putfield 63, 3, 11, 7), (124, .aload_n 0, 1, 0, 0), (125, .new 67, 3, 10, 0), (128, .dup, 1, 0, 0), (129, .aload_n 0, 1, 0, 0), (130, .getfield 10, 3, 11, 0), (133, .invokespecial 69, 3, 124, 5), (136, .putfield 70, 3, 11, 8), (139, .return_, 1, 0, 0)]
theorem ct_137_ok : (ct_137.all fun e => okL 137 [e, (e.1 + e.2.2.1, .nop, 0, 0, 0)]) = true := by decide +kernel
def ct_205 : List Ins := [(0, .aload_n 0, 1, 0, 0), (1, .invokespecial 1, 3, 0, (-1)), (4, .aload_n 0, 1, 0, 0), (5, .sipush 2564, 3, 0, 0), (8, .newarray .int, 2, 0, 0), (10, .putfield 7, 3, 12, 0), (13, .aload_n 0, 1, 0, 0), (14, .sipush 2564, 3, 0, 0), (17, .newarray .int, 2, 0, 0), (19, .putfield 13, 3, 12, 1), (22, .aload_n 0, 1, 0, 0), (23, .sipush 2724, 3, 0, 0), (26, .newarray .int, 2, 0, 0), (28, .putfield 16, 3, 12, 2), (31, .aload_n 0, 1, 0, 0), (32, .sipush 300, 3, 0, 0), (35, .newarray .int, 2, 0, 0), (37, .putfield 19, 3, 12, 3), (40, .aload_n 0, 1, 0, 0), (41, .iconst (-1), 1, 0, 0), (42, .putfield 22, 3, 12, 5), (45, .aload_n 0, 1, 0, 0), (46, .iconst (-1), 1, 0, 0), (47, .putfield 26, 3, 12, 6), (50, .aload_n 0, 1, 0, 0), (51, .sipush 160, 3, 0, 0), (54, .newarray .int, 2, 0, 0), (56, .putfield 29, 3, 12, 15), (59, .aload_n 0, 1, 0, 0), (60, .bipush 9, 2, 0, 0), (62, .newarray .int, 2, 0, 0), (64, .putfield 32, 3, 12, 20), (67, .aload_n 0, 1, 0, 0), (68, .sipush 330, 3, 0, 0), (71, .newarray .long, 2, 0, 0), (73, .putfield 35, 3, 12, 21), (76, .aload_n 0, 1, 0, 0), (77, .iconst 1, 1, 0, 0), (78, .putfield 39, 3, 12, 22), (81, .aload_n 0, 1, 0, 0), (82, .bipush 86, 2, 0, 0), (84, .newarray .int, 2, 0, 0), (86, .putfield 43, 3, 12, 25), (89, .aload_n 0, 1, 0, 0), (90, .bipush 8, 2, 0, 0), (92, .newarray .int, 2, 0, 0), (94, .putfield 46, 3, 12, 26), (97, .aload_n 0, 1, 0, 0), (98, .bipush 7, 2, 0, 0), (100, .newarray .int, 2, 0, 0), (102, .putfield 49, 3, 12, 27), (105, .aload_n 0, 1, 0, 0), (106, .bipush 7, 2, 0, 0), (108, .newarray .int, 2, 0, 0), (110, .putfield 52, 3, 12, 28), (113, .aload_n 0, 1, 0, 0), (114, .sipush 128, 3, 0, 0), (117, .newarray .int, 2, 0, 0), (119, .putfield 55, 3, 12, 29), (122, .aload_n 0, 1, 0, 0), (123, .bipush 6, 2, 0, 0), (125, .newarray .int, 2, 0, 0), (127, .putfield 58, 3, 12, 30), (130, .aload_n 0, 1, 0, 0), (131, .bipush 6, 2, 0, 0), (133, .newarray .int, 2, 0, 0), (135, .putfield 61, 3, 12, 31), (138, .aload_n 0, 1, 0, 0), (139, .getfield 7, 3, 12, 0), (142, .bipush 12, 2, 0, 0), (144, .bipush 113, 2, 0, 0), (146, .iastore, 1, 0, 0), (147, .aload_n 0, 1, 0, 0), (148, .getfield 7, 3, 12, 0), (151, .iconst 3, 1, 0, 0), (152, .iconst (-1), 1, 0, 0), (153, .iastore, 1, 0, 0), (154, .aload_n 0, 1, 0, 0), (155, .getfield 7, 3, 12, 0), (158, .aload_n 0, 1, 0, 0), (159, .getfield 13, 3, 12, 1), (165, .return_, 1, 0, 0)]
theorem ct_205_ok : (ct_205.all fun e => okL 205 [e, (e.1 + e.2.2.1, .nop, 0, 0, 0)]) = true := by decide +kernel
def ctl (M : Nat) : List Ins := match M with
  | 0 => ct_0
  | 9 => ct_9
  | 17 => ct_17
  | 25 => ct_25
  | 32 => ct_32
  | 41 => ct_41
  | 58 => ct_58
  | 74 => ct_74
  | 107 => ct_107
  | 124 => ct_124
  | 137 => ct_137
  | 205 => ct_205
  | _ => []
def ctab (M pc : Nat) : Option Ins := (ctl M).find? fun e => e.1 == pc
theorem ctl_ok (M : Nat) : ((ctl M).all fun e => okL M [e, (e.1 + e.2.2.1, .nop, 0, 0, 0)]) = true := by
  unfold ctl
  split
  · exact ct_0_ok
  · exact ct_9_ok
  · exact ct_17_ok
  · exact ct_25_ok
  · exact ct_32_ok
  · exact ct_41_ok
  · exact ct_58_ok
  · exact ct_74_ok
  · exact ct_107_ok
  · exact ct_124_ok
  · exact ct_137_ok
  · exact ct_205_ok
  · rfl
theorem ctab_ok (M pc : Nat) (e : Ins) (h : ctab M pc = some e) : e.1 = pc ∧ okL M [e, (pc + e.2.2.1, .nop, 0, 0, 0)] = true := by
  have h1 : e.1 = pc := by simpa using List.find?_some h
  have h2 := List.all_eq_true.mp (ctl_ok M) e (List.mem_of_find?_eq_some h)
  rw [h1] at h2
  exact ⟨h1, h2⟩
def rx0 : List (Nat × Nat × Nat) := [(1, 8, 128), (128, 1, 11), (128, 0, 3), (128, 6, 133), (128, 5, 132), (128, 4, 131), (128, 3, 130), (128, 2, 129), (1, 7, 122), (122, 2, 115), (122, 1, 11), (122, 0, 3), (122, 7, 127), (122, 6, 126), (122, 5, 125), (122, 4, 124), (122, 3, 123), (1, 6, 121), (121, 3, 115), (121, 2, 11), (121, 1, 3), (121, 0, 2), (1, 5, 118), (118, 2, 115), (118, 1, 3), (118, 0, 2), (118, 4, 120), (118, 3, 119), (1, 4, 115), (115, 0, 2), (115, 2, 117), (115, 1, 116), (1, 3, 108), (108, 0, 102), (108, 13, 114), (108, 12, 113), (108, 11, 112), (108, 9, 111), (108, 8, 110), (108, 7, 109), (1, 2, 102), (102, 5, 107), (102, 4, 106), (102, 3, 105), (102, 2, 104), (102, 0, 103), (1, 1, 52), (52, 5, 101), (52, 2, 70), (70, 29, 100), (70, 28, 99), (70, 27, 98), (70, 26, 97), (70, 25, 96), (70, 24, 95), (70, 23, 94), (70, 22, 93), (70, 21, 92), (70, 20, 91), (70, 19, 90), (70, 18, 89), (70, 17, 88), (70, 16, 87), (70, 15, 86), (70, 14, 85), (70, 13, 84), (70, 12, 83), (70, 11, 82), (70, 10, 81), (70, 9, 80), (70, 8, 79), (70, 7, 78), (70, 6, 77), (70, 5, 76), (70, 4, 75), (70, 3, 74), (70, 2, 73), (70, 1, 72), (70, 0, 71), (52, 1, 61), (61, 3, 65), (65, 3, 69), (65, 2, 68), (65, 1, 67), (65, 0, 66), (61, 2, 64), (61, 1, 63), (61, 0, 62), (52, 0, 53), (53, 15, 60), (53, 11, 59), (53, 10, 58), (53, 6, 57), (53, 5, 56), (53, 4, 55), (53, 3, 54), (1, 0, 2), (2, 5, 51), (2, 2, 20), (20, 29, 50), (20, 28, 49), (20, 27, 48), (20, 26, 47), (20, 25, 46), (20, 24, 45), (20, 23, 44), (20, 22, 43), (20, 21, 42), (20, 20, 41), (20, 19, 40), (20, 18, 39), (20, 17, 38), (20, 16, 37), (20, 15, 36), (20, 14, 35), (20, 13, 34), (20, 12, 33), (20, 11, 32), (20, 10, 31), (20, 9, 30), (20, 8, 29), (20, 7, 28), (20, 6, 27), (20, 5, 26), (20, 4, 25), (20, 3, 24), (20, 2, 23), (20, 1, 22), (20, 0, 21), (2, 1, 11), (11, 3, 15), (15, 3, 19), (15, 2, 18), (15, 1, 17), (15, 0, 16), (11, 2, 14), (11, 1, 13), (11, 0, 12), (2, 0, 3), (3, 15, 10), (3, 11, 9), (3, 10, 8), (3, 6, 7), (3, 5, 6), (3, 4, 5), (3, 3, 4)]
def gx0 : List (Nat × Nat × Int) := [(108, 2, (-1)), (108, 1, (-1)), (102, 1, 0), (52, 7, (-1)), (62, 5, 1), (62, 4, 1), (62, 3, 1), (62, 2, 1), (62, 1, 1), (62, 0, 1), (53, 14, 113), (2, 7, (-1)), (12, 5, 1), (12, 4, 1), (12, 3, 1), (12, 2, 1), (12, 1, 1), (12, 0, 1), (3, 14, 113)]
def ra0 : List (Nat × Nat × Nat) := [(134, 31, 148), (134, 30, 147), (134, 29, 146), (134, 28, 145), (134, 27, 144), (134, 26, 143), (134, 25, 142), (134, 21, 141), (134, 20, 140), (134, 15, 139), (134, 3, 138), (134, 2, 137), (134, 1, 136), (134, 0, 135), (1, 8, 128), (128, 1, 11), (128, 0, 3), (128, 6, 133), (128, 5, 132), (128, 4, 131), (128, 3, 130), (128, 2, 129), (1, 7, 122), (122, 2, 115), (122, 1, 11), (122, 0, 3), (122, 7, 127), (122, 6, 126), (122, 5, 125), (122, 4, 124), (122, 3, 123), (1, 6, 121), (121, 3, 115), (121, 2, 11), (121, 1, 3), (121, 0, 2), (1, 5, 118), (118, 2, 115), (118, 1, 3), (118, 0, 2), (118, 4, 120), (118, 3, 119), (1, 4, 115), (115, 0, 2), (115, 2, 117), (115, 1, 116), (1, 3, 108), (108, 0, 102), (108, 13, 114), (108, 12, 113), (108, 11, 112), (108, 9, 111), (108, 8, 110), (108, 7, 109), (1, 2, 102), (102, 5, 107), (102, 4, 106), (102, 3, 105), (102, 2, 104), (102, 0, 103), (1, 1, 52), (52, 5, 101), (52, 2, 70), (70, 29, 100), (70, 28, 99), (70, 27, 98), (70, 26, 97), (70, 25, 96), (70, 24, 95), (70, 23, 94), (70, 22, 93), (70, 21, 92), (70, 20, 91), (70, 19, 90), (70, 18, 89), (70, 17, 88), (70, 16, 87), (70, 15, 86), (70, 14, 85), (70, 13, 84), (70, 12, 83), (70, 11, 82), (70, 10, 81), (70, 9, 80), (70, 8, 79), (70, 7, 78), (70, 6, 77), (70, 5, 76), (70, 4, 75), (70, 3, 74), (70, 2, 73), (70, 1, 72), (70, 0, 71), (52, 1, 61), (61, 3, 65), (65, 3, 69), (65, 2, 68), (65, 1, 67), (65, 0, 66), (61, 2, 64), (61, 1, 63), (61, 0, 62), (52, 0, 53), (53, 15, 60), (53, 11, 59), (53, 10, 58), (53, 6, 57), (53, 5, 56), (53, 4, 55), (53, 3, 54), (1, 0, 2), (2, 5, 51), (2, 2, 20), (20, 29, 50), (20, 28, 49), (20, 27, 48), (20, 26, 47), (20, 25, 46), (20, 24, 45), (20, 23, 44), (20, 22, 43), (20, 21, 42), (20, 20, 41), (20, 19, 40), (20, 18, 39), (20, 17, 38), (20, 16, 37), (20, 15, 36), (20, 14, 35), (20, 13, 34), (20, 12, 33), (20, 11, 32), (20, 10, 31), (20, 9, 30), (20, 8, 29), (20, 7, 28), (20, 6, 27), (20, 5, 26), (20, 4, 25), (20, 3, 24), (20, 2, 23), (20, 1, 22), (20, 0, 21), (2, 1, 11), (11, 3, 15), (15, 3, 19), (15, 2, 18), (15, 1, 17), (15, 0, 16), (11, 2, 14), (11, 1, 13), (11, 0, 12), (2, 0, 3), (3, 15, 10), (3, 11, 9), (3, 10, 8), (3, 6, 7), (3, 5, 6), (3, 4, 5), (3, 3, 4)]
def ga0 : List (Nat × Nat × Int) := [(135, 3, (-1)), (135, 12, 113), (134, 22, 1), (134, 6, (-1)), (134, 5, (-1)), (108, 2, (-1)), (108, 1, (-1)), (102, 1, 0), (52, 7, (-1)), (62, 5, 1), (62, 4, 1), (62, 3, 1), (62, 2, 1), (62, 1, 1), (62, 0, 1), (53, 14, 113), (2, 7, (-1)), (12, 5, 1), (12, 4, 1), (12, 3, 1), (12, 2, 1), (12, 1, 1), (12, 0, 1), (3, 14, 113)]
def T0x : List (Nat × Nat) := [(99, 0), (21, 9), (11, 8), (17, 18), (0, 6), (0, 6), (0, 6), (0, 6), (0, 7), (0, 7), (0, 40), (13, 4), (0, 6), (0, 9), (0, 4), (2, 4), (0, 8), (0, 8), (0, 8), (0, 8), (2, 30), (0, 62), (0, 62), (0, 62), (0, 62), (0, 62), (0, 62), (0, 62), (0, 62), (0, 62), (0, 62), (0, 62), (0, 62), (0, 62), (0, 62), (0, 62), (0, 62), (0, 62), (0, 62), (0, 62), (0, 62), (0, 62), (0, 62), (0, 62), (0, 62), (0, 62), (0, 62), (0, 62), (0, 62), (0, 62), (0, 62), (3, 4), (11, 8), (17, 18), (0, 6), (0, 6), (0, 6), (0, 6), (0, 7), (0, 7), (0, 40), (13, 4), (0, 6), (0, 9), (0, 4), (2, 4), (0, 8), (0, 8), (0, 8), (0, 8), (2, 30), (0, 62), (0, 62), (0, 62), (0, 62), (0, 62), (0, 62), (0, 62), (0, 62), (0, 62), (0, 62), (0, 62), (0, 62), (0, 62), (0, 62), (0, 62), (0, 62), (0, 62), (0, 62), (0, 62), (0, 62), (0, 62), (0, 62), (0, 62), (0, 62), (0, 62), (0, 62), (0, 62), (0, 62), (0, 62), (0, 62), (3, 4), (18, 7), (0, 300), (0, 301), (0, 301), (0, 301), (0, 301), (16, 16), (0, 24), (0, 24), (0, 24), (0, 300), (0, 3), (0, 3), (12, 3), (0, 9), (0, 40), (15, 6), (0, 6), (0, 62), (10, 4), (14, 8), (0, 7), (0, 7), (0, 7), (0, 7), (0, 128), (20, 7), (0, 6), (0, 6), (0, 6), (0, 6), (0, 6)]
def isR (o : Option (Option V × CS)) (H : HC) : Bool := match o with
  | some (some (.inl 0), _, _, _, _, _, H') => decide (H' = H)
  | _ => false
def isS (o : Option (Option V × CS)) (pc k n a b c : Nat) (H : HC) : Bool := match o with
  | some (none, pc', k', n', [some (.inr (.inr (.inl a')))], [.inr (.inr (.inl b')), .inr (.inr (.inl c'))], H') => decide (pc' = pc ∧ k' = k ∧ n' = n ∧ a' = a ∧ b' = b ∧ c' = c ∧ H' = H)
  | _ => false
theorem isR_ok {o : Option (Option V × CS)} {H : HC} (h : isR o H = true) : ∃ a b c d e, o = some (some (vI 0), a, b, c, d, e, H) := by
  unfold isR at h
  split at h
  · have := of_decide_eq_true h
    subst this
    exact ⟨_, _, _, _, _, rfl⟩
  · cases h
theorem isS_ok {o : Option (Option V × CS)} {pc k n a b c : Nat} {H : HC} (h : isS o pc k n a b c H = true) : o = some (none, pc, k, n, [some (vR a)], [vR b, vR c], H) := by
  unfold isS at h
  split at h
  · obtain ⟨h1, h2, h3, h4, h5, h6, h7⟩ := of_decide_eq_true h
    subst h1; subst h2; subst h3; subst h4; subst h5; subst h6; subst h7
    rfl
  · cases h

theorem run_x : isR (ex ctab 3000 5 137 (Pmc 137) (Pms 137) 0 [some (vR 1)] [] ([(99, 0), (21, 9)], [], [])) (T0x, rx0, gx0) = true := by decide +kernel
theorem run_m : isS (ex ctab 3000 5 205 (Pmc 205) (Pms 205) 0 [some (vR 134)] [] (T0x ++ [(22, 32)], rx0, gx0)) 162 0 0 134 136 135 (T0, ra0, ga0) = true := by decide +kernel
end CT2
