set_option maxRecDepth 100000 in
theorem c_X7_power (K : KK) (hi hl : HI) (n : Nat) (hn : n ≤ 5) (Q : QT) (hq : Q (some (vI (p3 n : Nat))) K hi hl) : Con eX7_power [vI (n : Nat)] K hi hl Q := by
  refine Con.ofV (by decide +kernel) (Nat.le_of_ble_eq_true rfl) ?_
  show V eX7_power none K 0 [(0, vI ((n : Nat) : Int))] [] hi hl 0 0 Q
  have hp := p3_6 (show n ≤ 6 by omega)
  refine V.iload_n (pc := 0) 0 dX7_power_0 rfl ?_
  refine V.if_lt (pc := 1) 20 dX7_power_1 (by decide) (fun hc => by exfalso; omega) (fun h1 => ?_)
  refine V.iload_n (pc := 4) 0 dX7_power_4 rfl ?_
  refine V.stlen (pc := 5) (N := 6) (f := tP) (fun _ _ q => q.2) fsX7_239 dX7_power_5 dX7_power_8 (by decide) ?_
  refine V.icmp_ge (pc := 9) 20 dX7_power_9 (by decide) (fun hc => by exfalso; omega) (fun h9 => ?_)
  refine V.stld (pc := 12) (N := 6) (f := tP) 0 n (((p3 n : Nat) : Int)) (fun _ _ q => q.2) fsX7_239 dX7_power_12 dX7_power_15 dX7_power_16 rfl rfl (by omega) (tP_p3 hn) ((rI_n (by omega))) ?_
  refine V.goto (pc := 17) 21 dX7_power_17 (by decide) ?_
  refine V.iret (pc := 21) (z := ((p3 n : Nat) : Int)) dX7_power_21 rfl ?_
  exact hq

set_option maxRecDepth 100000 in
theorem c_X7_firstOf (K : KK) (hi hl : HI) (n : Nat) (hn : n ≤ 6) (Q : QT) (hq : Q (some (vI (f3 n : Nat))) K hi hl) : Con eX7_firstOf [vI (n : Nat)] K hi hl Q := by
  refine Con.ofV (by decide +kernel) (Nat.le_of_ble_eq_true rfl) ?_
  show V eX7_firstOf none K 0 [(0, vI ((n : Nat) : Int))] [] hi hl 0 0 Q
  have hf := f3_p3 n
  have hp := p3_6 hn
  refine V.iload_n (pc := 0) 0 dX7_firstOf_0 rfl ?_
  refine V.if_lt (pc := 1) 20 dX7_firstOf_1 (by decide) (fun hc => by exfalso; omega) (fun h1 => ?_)
  refine V.iload_n (pc := 4) 0 dX7_firstOf_4 rfl ?_
  refine V.stlen (pc := 5) (N := 7) (f := tF) (fun _ _ q => q.1) fsX7_242 dX7_firstOf_5 dX7_firstOf_8 (by decide) ?_
  refine V.icmp_ge (pc := 9) 20 dX7_firstOf_9 (by decide) (fun hc => by exfalso; omega) (fun h9 => ?_)
  refine V.stld (pc := 12) (N := 7) (f := tF) 0 n (((f3 n : Nat) : Int)) (fun _ _ q => q.1) fsX7_242 dX7_firstOf_12 dX7_firstOf_15 dX7_firstOf_16 rfl rfl (by omega) (tF_f3 hn) ((rI_n (by omega))) ?_
  refine V.goto (pc := 17) 23 dX7_firstOf_17 (by decide) ?_
  refine V.iret (pc := 23) (z := ((f3 n : Nat) : Int)) dX7_firstOf_23 rfl ?_
  exact hq

set_option maxRecDepth 100000 in
theorem c_X7_lengthOf (K : KK) (hi hl : HI) (v : Nat) (hv : v < 364) (Q : QT) (hq : Q (some (vI (L3 v : Nat))) K hi hl) : Con eX7_lengthOf [vI (v : Nat)] K hi hl Q := by
  refine Con.ofV (by decide +kernel) (Nat.le_of_ble_eq_true rfl) ?_
  show V eX7_lengthOf none K 0 [(0, vI ((v : Nat) : Int))] [] hi hl 0 0 Q
  refine V.iconst (pc := 0) (z := 0) dX7_lengthOf_0 rfl ⟨by decide, by decide⟩ ?_
  refine V.istore_n (pc := 1) (i := 1) dX7_lengthOf_1 rfl (by decide) (ls' := [(1, vI 0), (0, vI ((v : Nat) : Int))]) rfl ?_
  have lp2 : ∀ (fu2 : Nat) (k : Nat), (k ≤ 5) → (f3 k ≤ v) → 5 - k < fu2 → V eX7_lengthOf none K 2 [(0, vI ((v : Nat) : Int)), (1, vI ((k : Nat) : Int))] [] hi hl 0 0 Q := by
    intro fu2
    induction fu2 with
    | zero => intro k hk hl3 hm2; exact absurd hm2 (Nat.not_lt_zero _)
    | succ fu2 ih2 =>
      intro k hk hl3 hm2
      refine V.iload_n (pc := 2) 1 dX7_lengthOf_2 rfl ?_
      refine V.iconst (pc := 3) (z := 5) dX7_lengthOf_3 rfl ⟨by decide, by decide⟩ ?_
      refine V.icmp_ge (pc := 4) 23 dX7_lengthOf_4 (by decide) (fun h4 => ?_) (fun h4 => ?_)
      · skip
        refine V.iload_n (pc := 23) 1 dX7_lengthOf_23 rfl ?_
        refine V.iret (pc := 24) (z := ((k : Nat) : Int)) dX7_lengthOf_24 rfl ?_
        exact (L3_up hv hl3 (by first | omega | (have e5 : k = 5 := by omega
                                                 subst e5; exact hv))) ▸ hq
      · skip
        refine V.iload_n (pc := 7) 1 dX7_lengthOf_7 rfl ?_
        refine V.iconst (pc := 8) (z := 1) dX7_lengthOf_8 rfl ⟨by decide, by decide⟩ ?_
        refine V.iadd (pc := 9) ((((k + 1) : Nat) : Int)) dX7_lengthOf_9 (w32_of (by omega) (by omega) (by omega)) ?_
        refine V.callS (pc := 10) (e1 := eX7_firstOf) 1 [vI (((k + 1) : Nat) : Int)] [] mfX7_firstOf slX7_firstOf mlX7_245 dX7_lengthOf_10 rfl rfl (Nat.le_of_ble_eq_true rfl) ⟨by decide, by decide, by decide, by decide⟩ ?_
        refine c_X7_firstOf K hi hl (k + 1) (by omega) _ ?_
        refine V.qI (pc := 10) rfl rfl ?_
        refine V.iload_n (pc := 13) 0 dX7_lengthOf_13 rfl ?_
        refine V.icmp_gt (pc := 14) 23 dX7_lengthOf_14 (by decide) (fun h14 => ?_) (fun h14 => ?_)
        · skip
          refine V.iload_n (pc := 23) 1 dX7_lengthOf_23 rfl ?_
          refine V.iret (pc := 24) (z := ((k : Nat) : Int)) dX7_lengthOf_24 rfl ?_
          exact (L3_up hv hl3 (by first | omega | (have e5 : k = 5 := by omega
                                                   subst e5; exact hv))) ▸ hq
        · skip
          refine V.iinc (pc := 17) (r := ((k + 1 : Nat) : Int)) 1 dX7_lengthOf_17 rfl (w32_of (by omega) (by omega) (by omega)) (by decide) (ls' := [(1, vI ((k + 1 : Nat) : Int)), (0, vI ((v : Nat) : Int))]) rfl ?_
          refine V.goto (pc := 20) 2 dX7_lengthOf_20 (by decide) ?_
          refine V.locs [1, 0] (ls' := [(0, vI ((v : Nat) : Int)), (1, vI ((k + 1 : Nat) : Int))]) rfl ?_
          exact ih2 (k + 1) (by omega) (by omega) (by omega)
  refine V.locs [1, 0] (ls' := [(0, vI ((v : Nat) : Int)), (1, vI 0)]) rfl ?_
  exact lp2 _ 0 (by omega) (by show 0 ≤ v; omega) (Nat.lt_succ_self _)

set_option maxRecDepth 100000 in
theorem c_X7_wordOfN (K : KK) (hi hl : HI) (i : Int) (Q : QT) (hq : Q (some (vI (-6))) K hi hl) : Con eX7_wordOf [vI (-1), vI i] K hi hl Q := by
  refine Con.ofV (by decide +kernel) (Nat.le_of_ble_eq_true rfl) ?_
  show V eX7_wordOf none K 0 [(0, vI (-1)), (1, vI i)] [] hi hl 0 0 Q
  refine V.iload_n (pc := 0) 0 dX7_wordOf_0 rfl ?_
  refine V.iconst (pc := 1) (z := (-1)) dX7_wordOf_1 rfl ⟨by decide, by decide⟩ ?_
  refine V.icmp_ne (pc := 2) 8 dX7_wordOf_2 (by decide) (fun hc => by exact absurd hc (by decide)) (fun h2 => ?_)
  refine V.bipush (pc := 5) (z := (-6)) dX7_wordOf_5 (by decide +kernel) ⟨by decide, by decide⟩ ?_
  refine V.iret (pc := 7) (z := (-6)) dX7_wordOf_7 rfl ?_
  exact hq

set_option maxRecDepth 100000 in
theorem c_X7_wordOfV (K : KK) (hi hl : HI) (v : Nat) (hv : v < 364) (i : Int) (Q : QT) (hq : Q (some (vI (wordS v i))) K hi hl) : Con eX7_wordOf [vI (v : Nat), vI i] K hi hl Q := by
  refine Con.ofV (by decide +kernel) (Nat.le_of_ble_eq_true rfl) ?_
  show V eX7_wordOf none K 0 [(0, vI ((v : Nat) : Int)), (1, vI i)] [] hi hl 0 0 Q
  have hL := L3_le v
  obtain ⟨hf1, hf2, hf3⟩ := L3_f hv
  refine V.iload_n (pc := 0) 0 dX7_wordOf_0 rfl ?_
  refine V.iconst (pc := 1) (z := (-1)) dX7_wordOf_1 rfl ⟨by decide, by decide⟩ ?_
  refine V.icmp_ne (pc := 2) 8 dX7_wordOf_2 (by decide) (fun h2 => ?_) (fun hc => by exfalso; omega)
  refine V.iload_n (pc := 8) 0 dX7_wordOf_8 rfl ?_
  refine V.callS (pc := 9) (e1 := eX7_lengthOf) 1 [vI ((v : Nat) : Int)] [] mfX7_lengthOf slX7_lengthOf mlX7_142 dX7_wordOf_9 rfl rfl (Nat.le_of_ble_eq_true rfl) ⟨by decide, by decide, by decide, by decide⟩ ?_
  refine c_X7_lengthOf K hi hl v (by omega) _ ?_
  refine V.qI (pc := 9) rfl rfl ?_
  refine V.istore_n (pc := 12) (i := 2) dX7_wordOf_12 rfl (by decide) (ls' := [(2, vI ((L3 v : Nat) : Int)), (0, vI ((v : Nat) : Int)), (1, vI i)]) rfl ?_
  refine V.iload_n (pc := 13) 2 dX7_wordOf_13 rfl ?_
  refine V.iconst (pc := 14) (z := (-1)) dX7_wordOf_14 rfl ⟨by decide, by decide⟩ ?_
  refine V.icmp_ne (pc := 15) 20 dX7_wordOf_15 (by decide) (fun h15 => ?_) (fun h15 => ?_)
  · skip
    refine V.iload_n (pc := 20) 2 dX7_wordOf_20 rfl ?_
    refine V.if_lt (pc := 21) 29 dX7_wordOf_21 (by decide) (fun h21 => ?_) (fun h21 => ?_)
    · skip
      refine V.bipush (pc := 29) (z := (-6)) dX7_wordOf_29 (by decide +kernel) ⟨by decide, by decide⟩ ?_
      refine V.iret (pc := 31) (z := (-6)) dX7_wordOf_31 rfl ?_
      rw [wordS_out (by omega) (by omega)] at hq
      exact hq
    · skip
      refine V.iload_n (pc := 24) 2 dX7_wordOf_24 rfl ?_
      refine V.iload_n (pc := 25) 0 dX7_wordOf_25 rfl ?_
      refine V.icmp_lt (pc := 26) 32 dX7_wordOf_26 (by decide) (fun h26 => ?_) (fun h26 => ?_)
      · skip
        have hj0 : 0 ≤ i := by omega
        obtain ⟨j, rfl⟩ : ∃ j : Nat, i = (j : Int) := ⟨i.toNat, by omega⟩
        refine V.iload_n (pc := 32) 0 dX7_wordOf_32 rfl ?_
        refine V.iconst (pc := 33) (z := 1) dX7_wordOf_33 rfl ⟨by decide, by decide⟩ ?_
        refine V.isub (pc := 34) (((L3 v - 1 : Nat) : Int)) dX7_wordOf_34 (w32_of (by omega) (by omega) (by omega)) ?_
        refine V.iload_n (pc := 35) 2 dX7_wordOf_35 rfl ?_
        refine V.isub (pc := 36) (((L3 v - 1 - j : Nat) : Int)) dX7_wordOf_36 (w32_of (by omega) (by omega) (by omega)) ?_
        refine V.callS (pc := 37) (e1 := eX7_power) 1 [vI ((L3 v - 1 - j : Nat) : Int)] [] mfX7_power slX7_power mlX7_206 dX7_wordOf_37 rfl rfl (Nat.le_of_ble_eq_true rfl) ⟨by decide, by decide, by decide, by decide⟩ ?_
        refine c_X7_power K hi hl (L3 v - 1 - j) (by omega) _ ?_
        refine V.qI (pc := 37) rfl rfl ?_
        have hp1 := p3_pos (L3 v - 1 - j)
        have hp2 := p3_6 (show L3 v - 1 - j ≤ 6 by omega)
        refine V.istore_n (pc := 40) (i := 3) dX7_wordOf_40 rfl (by decide) (ls' := [(3, vI ((p3 (L3 v - 1 - j) : Nat) : Int)), (2, vI ((L3 v : Nat) : Int)), (0, vI ((v : Nat) : Int)), (1, vI ((j : Nat) : Int))]) rfl ?_
        refine V.bipush (pc := 41) (z := 97) dX7_wordOf_41 (by decide +kernel) ⟨by decide, by decide⟩ ?_
        refine V.iload_n (pc := 43) 2 dX7_wordOf_43 rfl ?_
        refine V.iload_n (pc := 44) 1 dX7_wordOf_44 rfl ?_
        refine V.callS (pc := 45) (e1 := eX7_firstOf) 1 [vI ((L3 v : Nat) : Int)] [vI ((v : Nat) : Int), vI 97] mfX7_firstOf slX7_firstOf mlX7_245 dX7_wordOf_45 rfl rfl (Nat.le_of_ble_eq_true rfl) ⟨by decide, by decide, by decide, by decide⟩ ?_
        refine c_X7_firstOf K hi hl (L3 v) (by omega) _ ?_
        refine V.qI (pc := 45) rfl rfl ?_
        refine V.isub (pc := 48) (((v - f3 (L3 v) : Nat) : Int)) dX7_wordOf_48 (w32_of (by omega) (by omega) (by omega)) ?_
        refine V.iload_n (pc := 49) 0 dX7_wordOf_49 rfl ?_
        have hd1 := Nat.div_le_self (v - f3 (L3 v)) (p3 (L3 v - 1 - j))
        refine V.idiv (pc := 50) ((((v - f3 (L3 v)) / (p3 (L3 v - 1 - j)) : Nat) : Int)) dX7_wordOf_50 (by omega) (dN (a := (v - f3 (L3 v))) (b := (p3 (L3 v - 1 - j))) (by omega) (by omega) (by omega)) (rI_n (by omega)) ?_
        refine V.iconst (pc := 51) (z := 3) dX7_wordOf_51 rfl ⟨by decide, by decide⟩ ?_
        refine V.irem (pc := 52) (((((v - f3 (L3 v)) / (p3 (L3 v - 1 - j))) % 3 : Nat) : Int)) dX7_wordOf_52 (by omega) (mN (a := ((v - f3 (L3 v)) / (p3 (L3 v - 1 - j)))) (b := 3) (by omega) (by omega) (by omega)) (rI_n (by omega)) ?_
        refine V.iadd (pc := 53) (((97 + (((v - f3 (L3 v)) / (p3 (L3 v - 1 - j))) % 3) : Nat) : Int)) dX7_wordOf_53 (w32_of (by omega) (by omega) (by omega)) ?_
        refine V.iret (pc := 54) (z := ((97 + (((v - f3 (L3 v)) / (p3 (L3 v - 1 - j))) % 3) : Nat) : Int)) dX7_wordOf_54 rfl ?_
        rw [wordS_in (by omega)] at hq
        exact hq
      · skip
        refine V.bipush (pc := 29) (z := (-6)) dX7_wordOf_29 (by decide +kernel) ⟨by decide, by decide⟩ ?_
        refine V.iret (pc := 31) (z := (-6)) dX7_wordOf_31 rfl ?_
        rw [wordS_out (by omega) (by omega)] at hq
        exact hq
  · skip
    refine V.iload_n (pc := 18) 0 dX7_wordOf_18 rfl ?_
    refine V.iret (pc := 19) (z := ((L3 v : Nat) : Int)) dX7_wordOf_19 rfl ?_
    rw [show i = -1 by omega, wordS_len] at hq
    exact hq

theorem c_X7_wordOf (K : KK) (hi hl : HI) (s i : Int) (hs : s = -1 ∨ (0 ≤ s ∧ s < 364)) (Q : QT) (hq : Q (some (vI (wordO s i))) K hi hl) : Con eX7_wordOf [vI s, vI i] K hi hl Q := by
  rcases hs with rfl | ⟨h1, h2⟩
  · exact c_X7_wordOfN K hi hl i Q hq
  · obtain ⟨v, rfl⟩ : ∃ v : Nat, s = (v : Int) := ⟨s.toNat, by omega⟩
    refine c_X7_wordOfV K hi hl v (by omega) i Q ?_
    unfold wordO at hq
    rw [if_neg (by omega)] at hq
    exact hq

set_option maxRecDepth 100000 in
theorem c_X7_isBird (K : KK) (hi hl : HI) (b : Int) (Q : QT) (hT : (0 ≤ b ∧ b < 6) → Q (some (vI 1)) K hi hl) (hF : ¬ (0 ≤ b ∧ b < 6) → Q (some (vI 0)) K hi hl) : Con eX7_isBird [vI b] K hi hl Q := by
  refine Con.ofV (by decide +kernel) (Nat.le_of_ble_eq_true rfl) ?_
  show V eX7_isBird none K 0 [(0, vI b)] [] hi hl 0 0 Q
  refine V.iload_n (pc := 0) 0 dX7_isBird_0 rfl ?_
  refine V.if_lt (pc := 1) 14 dX7_isBird_1 (by decide) (fun h1 => ?_) (fun h1 => ?_)
  · skip
    refine V.iconst (pc := 14) (z := 0) dX7_isBird_14 rfl ⟨by decide, by decide⟩ ?_
    refine V.zret (pc := 15) (z := 0) dX7_isBird_15 rfl (Or.inl rfl) ?_
    first | exact hT (by omega) | exact hF (by omega)
  · skip
    refine V.iload_n (pc := 4) 0 dX7_isBird_4 rfl ?_
    refine V.bipush (pc := 5) (z := 6) dX7_isBird_5 (by decide +kernel) ⟨by decide, by decide⟩ ?_
    refine V.icmp_ge (pc := 7) 14 dX7_isBird_7 (by decide) (fun h7 => ?_) (fun h7 => ?_)
    · skip
      refine V.iconst (pc := 14) (z := 0) dX7_isBird_14 rfl ⟨by decide, by decide⟩ ?_
      refine V.zret (pc := 15) (z := 0) dX7_isBird_15 rfl (Or.inl rfl) ?_
      first | exact hT (by omega) | exact hF (by omega)
    · skip
      refine V.iconst (pc := 10) (z := 1) dX7_isBird_10 rfl ⟨by decide, by decide⟩ ?_
      refine V.goto (pc := 11) 15 dX7_isBird_11 (by decide) ?_
      refine V.zret (pc := 15) (z := 1) dX7_isBird_15 rfl (Or.inr rfl) ?_
      first | exact hT (by omega) | exact hF (by omega)

set_option maxRecDepth 100000 in
theorem c_X7_areYears (K : KK) (hi hl : HI) (a b : Int) (Q : QT) (hT : (0 ≤ a ∧ a ≤ 9999 ∧ 1 ≤ b ∧ b ≤ 400) → Q (some (vI 1)) K hi hl) (hF : ¬ (0 ≤ a ∧ a ≤ 9999 ∧ 1 ≤ b ∧ b ≤ 400) → Q (some (vI 0)) K hi hl) : Con eX7_areYears [vI a, vI b] K hi hl Q := by
  refine Con.ofV (by decide +kernel) (Nat.le_of_ble_eq_true rfl) ?_
  show V eX7_areYears none K 0 [(0, vI a), (1, vI b)] [] hi hl 0 0 Q
  refine V.iload_n (pc := 0) 0 dX7_areYears_0 rfl ?_
  refine V.if_lt (pc := 1) 27 dX7_areYears_1 (by decide) (fun h1 => ?_) (fun h1 => ?_)
  · skip
    refine V.iconst (pc := 27) (z := 0) dX7_areYears_27 rfl ⟨by decide, by decide⟩ ?_
    refine V.zret (pc := 28) (z := 0) dX7_areYears_28 rfl (Or.inl rfl) ?_
    first | exact hT (by omega) | exact hF (by omega)
  · skip
    refine V.iload_n (pc := 4) 0 dX7_areYears_4 rfl ?_
    refine V.sipush (pc := 5) (z := 9999) dX7_areYears_5 (by decide +kernel) ⟨by decide, by decide⟩ ?_
    refine V.icmp_gt (pc := 8) 27 dX7_areYears_8 (by decide) (fun h8 => ?_) (fun h8 => ?_)
    · skip
      refine V.iconst (pc := 27) (z := 0) dX7_areYears_27 rfl ⟨by decide, by decide⟩ ?_
      refine V.zret (pc := 28) (z := 0) dX7_areYears_28 rfl (Or.inl rfl) ?_
      first | exact hT (by omega) | exact hF (by omega)
    · skip
      refine V.iload_n (pc := 11) 1 dX7_areYears_11 rfl ?_
      refine V.iconst (pc := 12) (z := 1) dX7_areYears_12 rfl ⟨by decide, by decide⟩ ?_
      refine V.icmp_lt (pc := 13) 27 dX7_areYears_13 (by decide) (fun h13 => ?_) (fun h13 => ?_)
      · skip
        refine V.iconst (pc := 27) (z := 0) dX7_areYears_27 rfl ⟨by decide, by decide⟩ ?_
        refine V.zret (pc := 28) (z := 0) dX7_areYears_28 rfl (Or.inl rfl) ?_
        first | exact hT (by omega) | exact hF (by omega)
      · skip
        refine V.iload_n (pc := 16) 1 dX7_areYears_16 rfl ?_
        refine V.sipush (pc := 17) (z := 400) dX7_areYears_17 (by decide +kernel) ⟨by decide, by decide⟩ ?_
        refine V.icmp_gt (pc := 20) 27 dX7_areYears_20 (by decide) (fun h20 => ?_) (fun h20 => ?_)
        · skip
          refine V.iconst (pc := 27) (z := 0) dX7_areYears_27 rfl ⟨by decide, by decide⟩ ?_
          refine V.zret (pc := 28) (z := 0) dX7_areYears_28 rfl (Or.inl rfl) ?_
          first | exact hT (by omega) | exact hF (by omega)
        · skip
          refine V.iconst (pc := 23) (z := 1) dX7_areYears_23 rfl ⟨by decide, by decide⟩ ?_
          refine V.goto (pc := 24) 28 dX7_areYears_24 (by decide) ?_
          refine V.zret (pc := 28) (z := 1) dX7_areYears_28 rfl (Or.inr rfl) ?_
          first | exact hT (by omega) | exact hF (by omega)

set_option maxRecDepth 100000 in
theorem c_X7_birdsWithSaying (K : KK) (hi hl : HI) (o : Nat) (hs : K.1[o]? = some (.inl (0, 6))) (Q : QT) (hq : Q (some (vI (bw (hi o) 6 : Nat))) K hi hl) : Con eX7_birdsWithSaying [vR o] K hi hl Q := by
  refine Con.ofV (by decide +kernel) (Nat.le_of_ble_eq_true rfl) ?_
  show V eX7_birdsWithSaying none K 0 [(0, vR o)] [] hi hl 0 0 Q
  refine V.iconst (pc := 0) (z := 0) dX7_birdsWithSaying_0 rfl ⟨by decide, by decide⟩ ?_
  refine V.istore_n (pc := 1) (i := 1) dX7_birdsWithSaying_1 rfl (by decide) (ls' := [(1, vI 0), (0, vR o)]) rfl ?_
  refine V.iconst (pc := 2) (z := 0) dX7_birdsWithSaying_2 rfl ⟨by decide, by decide⟩ ?_
  refine V.istore_n (pc := 3) (i := 2) dX7_birdsWithSaying_3 rfl (by decide) (ls' := [(2, vI 0), (1, vI 0), (0, vR o)]) rfl ?_
  have lp4 : ∀ (fu4 : Nat) (k : Nat), (k ≤ 6) → 6 - k < fu4 → V eX7_birdsWithSaying none K 4 [(0, vR o), (1, vI ((bw (hi o) k : Nat) : Int)), (2, vI ((k : Nat) : Int))] [] hi hl 0 0 Q := by
    intro fu4
    induction fu4 with
    | zero => intro k hk hm4; exact absurd hm4 (Nat.not_lt_zero _)
    | succ fu4 ih4 =>
      intro k hk hm4
      have hlt := bw_lt (hi o) k
      have hp6 : 2 ^ k ≤ 2 ^ 6 := Nat.pow_le_pow_right (by decide) hk
      have h64 : 2 ^ 6 = 64 := rfl
      refine V.iload_n (pc := 4) 2 dX7_birdsWithSaying_4 rfl ?_
      refine V.bipush (pc := 5) (z := 6) dX7_birdsWithSaying_5 (by decide +kernel) ⟨by decide, by decide⟩ ?_
      refine V.icmp_ge (pc := 7) 35 dX7_birdsWithSaying_7 (by decide) (fun h7 => ?_) (fun h7 => ?_)
      · skip
        refine V.iload_n (pc := 35) 1 dX7_birdsWithSaying_35 rfl ?_
        refine V.iret (pc := 36) (z := ((bw (hi o) k : Nat) : Int)) dX7_birdsWithSaying_36 rfl ?_
        have e6 : k = 6 := by omega
        subst e6
        exact hq
      · skip
        refine V.iload_n (pc := 10) 2 dX7_birdsWithSaying_10 rfl ?_
        refine V.aload_n (pc := 11) 0 dX7_birdsWithSaying_11 rfl ?_
        refine V.alen (pc := 12) (len := 6) (t := 0) dX7_birdsWithSaying_12 (hs) (by decide) (by decide) ?_
        refine V.icmp_ge (pc := 13) 35 dX7_birdsWithSaying_13 (by decide) (fun hc => by exfalso; omega) (fun h13 => ?_)
        refine V.aload_n (pc := 16) 0 dX7_birdsWithSaying_16 rfl ?_
        refine V.iload_n (pc := 17) 2 dX7_birdsWithSaying_17 rfl ?_
        refine V.ia (pc := 18) (len := 6) k (hi o k) dX7_birdsWithSaying_18 (hs) (rfl) (by omega) (rfl) ?_
        refine V.iconst (pc := 19) (z := (-1)) dX7_birdsWithSaying_19 rfl ⟨by decide, by decide⟩ ?_
        refine V.icmp_eq (pc := 20) 29 dX7_birdsWithSaying_20 (by decide) (fun h20 => ?_) (fun h20 => ?_)
        · skip
          refine V.iinc (pc := 29) (r := ((k + 1 : Nat) : Int)) 2 dX7_birdsWithSaying_29 rfl (w32_of (by omega) (by omega) (by omega)) (by decide) (ls' := [(2, vI ((k + 1 : Nat) : Int)), (0, vR o), (1, vI ((bw (hi o) k : Nat) : Int))]) rfl ?_
          refine V.goto (pc := 32) 4 dX7_birdsWithSaying_32 (by decide) ?_
          refine V.locs [1, 2, 0] (ls' := [(0, vR o), (1, vI ((bw (hi o) k : Nat) : Int)), (2, vI ((k + 1 : Nat) : Int))]) rfl ?_
          have e : bw (hi o) (k + 1) = bw (hi o) k := by rw [bw_s, if_pos (by omega)]
          rw [← e]
          exact ih4 (k + 1) (by omega) (by omega)
        · skip
          refine V.iload_n (pc := 23) 1 dX7_birdsWithSaying_23 rfl ?_
          refine V.iconst (pc := 24) (z := 1) dX7_birdsWithSaying_24 rfl ⟨by decide, by decide⟩ ?_
          refine V.iload_n (pc := 25) 2 dX7_birdsWithSaying_25 rfl ?_
          refine V.ishl (pc := 26) (((1 * 2 ^ k : Nat) : Int)) dX7_birdsWithSaying_26 (sN (a := 1) (by omega) (by omega)) (rI_n (by omega)) ?_
          have hor := bw_or hlt
          have hp7 : 2 ^ (k + 1) ≤ 2 ^ 6 := Nat.pow_le_pow_right (by decide) (by omega)
          refine V.ior (pc := 27) ((((bw (hi o) k) ||| (1 * 2 ^ k) : Nat) : Int)) dX7_birdsWithSaying_27 (oN (bw (hi o) k) (1 * 2 ^ k)) (rI_n (by omega)) ?_
          refine V.istore_n (pc := 28) (i := 1) dX7_birdsWithSaying_28 rfl (by decide) (ls' := [(1, vI (((bw (hi o) k) ||| (1 * 2 ^ k) : Nat) : Int)), (0, vR o), (2, vI ((k : Nat) : Int))]) rfl ?_
          refine V.iinc (pc := 29) (r := ((k + 1 : Nat) : Int)) 2 dX7_birdsWithSaying_29 rfl (w32_of (by omega) (by omega) (by omega)) (by decide) (ls' := [(2, vI ((k + 1 : Nat) : Int)), (1, vI (((bw (hi o) k) ||| (1 * 2 ^ k) : Nat) : Int)), (0, vR o)]) rfl ?_
          refine V.goto (pc := 32) 4 dX7_birdsWithSaying_32 (by decide) ?_
          refine V.locs [2, 1, 0] (ls' := [(0, vR o), (1, vI (((bw (hi o) k) ||| (1 * 2 ^ k) : Nat) : Int)), (2, vI ((k + 1 : Nat) : Int))]) rfl ?_
          have e : bw (hi o) (k + 1) = bw (hi o) k ||| 1 * 2 ^ k := by rw [bw_s, if_neg (by omega)]
          rw [← e]
          exact ih4 (k + 1) (by omega) (by omega)
  refine V.locs [2, 1, 0] (ls' := [(0, vR o), (1, vI 0), (2, vI 0)]) rfl ?_
  exact lp4 _ 0 (by omega) (Nat.lt_succ_self _)
