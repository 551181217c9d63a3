set_option maxRecDepth 100000 in
theorem c_X8_in (K : KK) (hi hl : HI) (v a b : Int) (Q : QT) (hT : (a ≤ v ∧ v ≤ b) → Q (some (vI 1)) K hi hl) (hF : ¬ (a ≤ v ∧ v ≤ b) → Q (some (vI 0)) K hi hl) : Con eX8_in [vL v, vL a, vL b] K hi hl Q := by
  refine Con.ofV (by decide +kernel) (Nat.le_of_ble_eq_true rfl) ?_
  show V eX8_in none K 0 [(0, vL v), (2, vL a), (4, vL b)] [] hi hl 0 0 Q
  refine V.lload_n (pc := 0) 0 dX8_in_0 rfl ?_
  refine V.lload_n (pc := 1) 1 dX8_in_1 rfl ?_
  refine V.lcmp (pc := 2) dX8_in_2 ?_
  refine V.if_lt (pc := 3) 17 dX8_in_3 (by decide) (fun h3 => ?_) (fun h3 => ?_)
  · have q3 := lcmp_lt.mp h3
    refine V.iconst (pc := 17) (z := 0) dX8_in_17 rfl ⟨by decide, by decide⟩ ?_
    refine V.zret (pc := 18) (z := 0) dX8_in_18 rfl (Or.inl rfl) ?_
    first | exact hT (by omega) | exact hF (by omega)
  · have q3 : ¬ v < a := fun q => h3 (lcmp_lt.mpr q) |>.elim
    refine V.lload_n (pc := 6) 0 dX8_in_6 rfl ?_
    refine V.lload (pc := 7) 2 dX8_in_7 rfl ?_
    refine V.lcmp (pc := 9) dX8_in_9 ?_
    refine V.if_gt (pc := 10) 17 dX8_in_10 (by decide) (fun h10 => ?_) (fun h10 => ?_)
    · have q10 := lcmp_gt.mp h10
      refine V.iconst (pc := 17) (z := 0) dX8_in_17 rfl ⟨by decide, by decide⟩ ?_
      refine V.zret (pc := 18) (z := 0) dX8_in_18 rfl (Or.inl rfl) ?_
      first | exact hT (by omega) | exact hF (by omega)
    · have q10 : ¬ b < v := fun q => by have := lcmp_gt.mpr q; omega
      refine V.iconst (pc := 13) (z := 1) dX8_in_13 rfl ⟨by decide, by decide⟩ ?_
      refine V.goto (pc := 14) 18 dX8_in_14 (by decide) ?_
      refine V.zret (pc := 18) (z := 1) dX8_in_18 rfl (Or.inr rfl) ?_
      first | exact hT (by omega) | exact hF (by omega)

set_option maxRecDepth 100000 in
theorem c_X8_isBird (K : KK) (hi hl : HI) (b : Int) (Q : QT) (hT : (0 ≤ b ∧ b ≤ 5) → Q (some (vI 1)) K hi hl) (hF : ¬ (0 ≤ b ∧ b ≤ 5) → Q (some (vI 0)) K hi hl) : Con eX8_isBird [vI b] K hi hl Q := by
  refine Con.ofV (by decide +kernel) (Nat.le_of_ble_eq_true rfl) ?_
  show V eX8_isBird none K 0 [(0, vI b)] [] hi hl 0 0 Q
  refine V.iload_n (pc := 0) 0 dX8_isBird_0 rfl ?_
  refine V.i2l (pc := 1) dX8_isBird_1 ?_
  refine V.lconst (pc := 2) (z := 0) dX8_isBird_2 (by decide +kernel) ⟨by decide, by decide⟩ ?_
  refine V.ldc2 (pc := 3) (z := 5) clX8_70 dX8_isBird_3 ⟨by decide, by decide⟩ ?_
  refine V.callS (pc := 6) (e1 := eX8_in) 3 [vL b, vL 0, vL 5] [] mfX8_in slX8_in mlX8_72 dX8_isBird_6 rfl rfl (Nat.le_of_ble_eq_true rfl) ⟨by decide, by decide, by decide, by decide⟩ ?_
  refine c_X8_in K hi hl b 0 5 _ (fun hin => ?_) (fun hin => ?_)
  · skip
    refine V.qI (pc := 6) rfl rfl ?_
    refine V.zret (pc := 9) (z := 1) dX8_isBird_9 rfl (Or.inr rfl) ?_
    first | exact hT (by omega) | exact hF (by omega)
  · skip
    refine V.qI (pc := 6) rfl rfl ?_
    refine V.zret (pc := 9) (z := 0) dX8_isBird_9 rfl (Or.inl rfl) ?_
    first | exact hT (by omega) | exact hF (by omega)

set_option maxRecDepth 100000 in
theorem c_X8_isLetter (K : KK) (hi hl : HI) (b : Int) (Q : QT) (hT : (65 ≤ b ∧ b ≤ 70) → Q (some (vI 1)) K hi hl) (hF : ¬ (65 ≤ b ∧ b ≤ 70) → Q (some (vI 0)) K hi hl) : Con eX8_isLetter [vI b] K hi hl Q := by
  refine Con.ofV (by decide +kernel) (Nat.le_of_ble_eq_true rfl) ?_
  show V eX8_isLetter none K 0 [(0, vI b)] [] hi hl 0 0 Q
  refine V.iload_n (pc := 0) 0 dX8_isLetter_0 rfl ?_
  refine V.i2l (pc := 1) dX8_isLetter_1 ?_
  refine V.ldc2 (pc := 2) (z := 65) clX8_116 dX8_isLetter_2 ⟨by decide, by decide⟩ ?_
  refine V.ldc2 (pc := 5) (z := 70) clX8_118 dX8_isLetter_5 ⟨by decide, by decide⟩ ?_
  refine V.callS (pc := 8) (e1 := eX8_in) 3 [vL b, vL 65, vL 70] [] mfX8_in slX8_in mlX8_72 dX8_isLetter_8 rfl rfl (Nat.le_of_ble_eq_true rfl) ⟨by decide, by decide, by decide, by decide⟩ ?_
  refine c_X8_in K hi hl b 65 70 _ (fun hin => ?_) (fun hin => ?_)
  · skip
    refine V.qI (pc := 8) rfl rfl ?_
    refine V.zret (pc := 11) (z := 1) dX8_isLetter_11 rfl (Or.inr rfl) ?_
    first | exact hT (by omega) | exact hF (by omega)
  · skip
    refine V.qI (pc := 8) rfl rfl ?_
    refine V.zret (pc := 11) (z := 0) dX8_isLetter_11 rfl (Or.inl rfl) ?_
    first | exact hT (by omega) | exact hF (by omega)

set_option maxRecDepth 100000 in
theorem c_X8_isSeed (K : KK) (hi hl : HI) (a n : Int) (Q : QT) (hT : (0 ≤ a ∧ a ≤ 9999 ∧ 1 ≤ n ∧ n ≤ 400) → Q (some (vI 1)) K hi hl) (hF : ¬ (0 ≤ a ∧ a ≤ 9999 ∧ 1 ≤ n ∧ n ≤ 400) → Q (some (vI 0)) K hi hl) : Con eX8_isSeed [vI a, vI n] K hi hl Q := by
  refine Con.ofV (by decide +kernel) (Nat.le_of_ble_eq_true rfl) ?_
  show V eX8_isSeed none K 0 [(0, vI a), (1, vI n)] [] hi hl 0 0 Q
  refine V.iload_n (pc := 0) 0 dX8_isSeed_0 rfl ?_
  refine V.i2l (pc := 1) dX8_isSeed_1 ?_
  refine V.lconst (pc := 2) (z := 0) dX8_isSeed_2 (by decide +kernel) ⟨by decide, by decide⟩ ?_
  refine V.ldc2 (pc := 3) (z := 9999) clX8_263 dX8_isSeed_3 ⟨by decide, by decide⟩ ?_
  refine V.callS (pc := 6) (e1 := eX8_in) 3 [vL a, vL 0, vL 9999] [] mfX8_in slX8_in mlX8_72 dX8_isSeed_6 rfl rfl (Nat.le_of_ble_eq_true rfl) ⟨by decide, by decide, by decide, by decide⟩ ?_
  refine c_X8_in K hi hl a 0 9999 _ (fun hin => ?_) (fun hin => ?_)
  · skip
    refine V.qI (pc := 6) rfl rfl ?_
    refine V.if_eq (pc := 9) 28 dX8_isSeed_9 (by decide) (fun hc => by exact absurd hc (by decide)) (fun h9 => ?_)
    refine V.iload_n (pc := 12) 1 dX8_isSeed_12 rfl ?_
    refine V.i2l (pc := 13) dX8_isSeed_13 ?_
    refine V.lconst (pc := 14) (z := 1) dX8_isSeed_14 (by decide +kernel) ⟨by decide, by decide⟩ ?_
    refine V.ldc2 (pc := 15) (z := 400) clX8_265 dX8_isSeed_15 ⟨by decide, by decide⟩ ?_
    refine V.callS (pc := 18) (e1 := eX8_in) 3 [vL n, vL 1, vL 400] [] mfX8_in slX8_in mlX8_72 dX8_isSeed_18 rfl rfl (Nat.le_of_ble_eq_true rfl) ⟨by decide, by decide, by decide, by decide⟩ ?_
    refine c_X8_in K hi hl n 1 400 _ (fun hin => ?_) (fun hin => ?_)
    · skip
      refine V.qI (pc := 18) rfl rfl ?_
      refine V.if_eq (pc := 21) 28 dX8_isSeed_21 (by decide) (fun hc => by exact absurd hc (by decide)) (fun h21 => ?_)
      refine V.iconst (pc := 24) (z := 1) dX8_isSeed_24 rfl ⟨by decide, by decide⟩ ?_
      refine V.goto (pc := 25) 29 dX8_isSeed_25 (by decide) ?_
      refine V.zret (pc := 29) (z := 1) dX8_isSeed_29 rfl (Or.inr rfl) ?_
      first | exact hT (by omega) | exact hF (by omega)
    · skip
      refine V.qI (pc := 18) rfl rfl ?_
      refine V.if_eq (pc := 21) 28 dX8_isSeed_21 (by decide) (fun h21 => ?_) (fun hc => by exact absurd hc (by decide))
      refine V.iconst (pc := 28) (z := 0) dX8_isSeed_28 rfl ⟨by decide, by decide⟩ ?_
      refine V.zret (pc := 29) (z := 0) dX8_isSeed_29 rfl (Or.inl rfl) ?_
      first | exact hT (by omega) | exact hF (by omega)
  · skip
    refine V.qI (pc := 6) rfl rfl ?_
    refine V.if_eq (pc := 9) 28 dX8_isSeed_9 (by decide) (fun h9 => ?_) (fun hc => by exact absurd hc (by decide))
    refine V.iconst (pc := 28) (z := 0) dX8_isSeed_28 rfl ⟨by decide, by decide⟩ ?_
    refine V.zret (pc := 29) (z := 0) dX8_isSeed_29 rfl (Or.inl rfl) ?_
    first | exact hT (by omega) | exact hF (by omega)

set_option maxRecDepth 100000 in
theorem c_X8_ones (K : KK) (hi hl : HI) (n0 : Nat) (hn : n0 < 2147483648) (Q : QT) (hq : Q (some (vI (pb 32 n0 : Nat))) K hi hl) : Con eX8_ones [vI (n0 : Nat)] K hi hl Q := by
  refine Con.ofV (by decide +kernel) (Nat.le_of_ble_eq_true rfl) ?_
  show V eX8_ones none K 0 [(0, vI ((n0 : Nat) : Int))] [] hi hl 0 0 Q
  refine V.iconst (pc := 0) (z := 0) dX8_ones_0 rfl ⟨by decide, by decide⟩ ?_
  refine V.istore_n (pc := 1) (i := 1) dX8_ones_1 rfl (by decide) (ls' := [(1, vI 0), (0, vI ((n0 : Nat) : Int))]) rfl ?_
  refine V.iload_n (pc := 2) 1 dX8_ones_2 rfl ?_
  refine V.istore_n (pc := 3) (i := 2) dX8_ones_3 rfl (by decide) (ls' := [(2, vI ((n0 : Nat) : Int)), (1, vI 0), (0, vI ((n0 : Nat) : Int))]) rfl ?_
  have lp4 : ∀ (fu4 : Nat) (c : Nat) (n : Nat), (n < 2147483648) → (c + pb 32 n = pb 32 n0) → n < fu4 → V eX8_ones none K 4 [(0, vI ((n0 : Nat) : Int)), (1, vI ((c : Nat) : Int)), (2, vI ((n : Nat) : Int))] [] hi hl 0 0 Q := by
    intro fu4
    induction fu4 with
    | zero => intro c n hnl hc hm4; exact absurd hm4 (Nat.not_lt_zero _)
    | succ fu4 ih4 =>
      intro c n hnl hc hm4
      have hpl := pb_le 32 n0
      refine V.iload_n (pc := 4) 2 dX8_ones_4 rfl ?_
      refine V.if_eq (pc := 5) 20 dX8_ones_5 (by decide) (fun h5 => ?_) (fun h5 => ?_)
      · skip
        refine V.iload_n (pc := 20) 1 dX8_ones_20 rfl ?_
        refine V.iret (pc := 21) (z := ((c : Nat) : Int)) dX8_ones_21 rfl ?_
        have e0 : n = 0 := by omega
        subst e0
        have ez : pb 32 0 = 0 := rfl
        rw [ez, Nat.add_zero] at hc
        rw [← hc] at hq
        exact hq
      · have hst := pb_step 32 n (by omega) (by omega)
        have hal := Nat.and_le_left (n := n) (m := n - 1)
        have har := Nat.and_le_right (n := n) (m := n - 1)
        refine V.iinc (pc := 8) (r := ((c + 1 : Nat) : Int)) 1 dX8_ones_8 rfl (w32_of (by omega) (by omega) (by omega)) (by decide) (ls' := [(1, vI ((c + 1 : Nat) : Int)), (0, vI ((n0 : Nat) : Int)), (2, vI ((n : Nat) : Int))]) rfl ?_
        refine V.iload_n (pc := 11) 2 dX8_ones_11 rfl ?_
        refine V.iload_n (pc := 12) 2 dX8_ones_12 rfl ?_
        refine V.iconst (pc := 13) (z := 1) dX8_ones_13 rfl ⟨by decide, by decide⟩ ?_
        refine V.isub (pc := 14) ((((n - 1) : Nat) : Int)) dX8_ones_14 (subN (a := n) (b := 1) (by omega) (by omega)) ?_
        refine V.iand (pc := 15) (((n &&& (n - 1) : Nat) : Int)) dX8_ones_15 (aN n (n - 1)) (rI_n (by omega)) ?_
        refine V.istore_n (pc := 16) (i := 2) dX8_ones_16 rfl (by decide) (ls' := [(2, vI ((n &&& (n - 1) : Nat) : Int)), (1, vI ((c + 1 : Nat) : Int)), (0, vI ((n0 : Nat) : Int))]) rfl ?_
        refine V.goto (pc := 17) 4 dX8_ones_17 (by decide) ?_
        refine V.locs [2, 1, 0] (ls' := [(0, vI ((n0 : Nat) : Int)), (1, vI ((c + 1 : Nat) : Int)), (2, vI ((n &&& (n - 1) : Nat) : Int))]) rfl ?_
        exact ih4 (c + 1) (n &&& (n - 1)) (by omega) (by omega) (by omega)
  refine V.locs [2, 1, 0] (ls' := [(0, vI ((n0 : Nat) : Int)), (1, vI 0), (2, vI ((n0 : Nat) : Int))]) rfl ?_
  exact lp4 _ 0 n0 (hn) (by omega) (Nat.lt_succ_self _)

set_option maxRecDepth 100000 in
theorem c_X8_firstOf (K : KK) (hi hl : HI) (n : Nat) (hn : n ≤ 6) (Q : QT) (hq : Q (some (vI (f3 n : Nat))) K hi hl) : Con eX8_firstOf [vI (n : Nat)] K hi hl Q := by
  refine Con.ofV (by decide +kernel) (Nat.le_of_ble_eq_true rfl) ?_
  show V eX8_firstOf none K 0 [(0, vI ((n : Nat) : Int))] [] hi hl 0 0 Q
  refine V.iconst (pc := 0) (z := 0) dX8_firstOf_0 rfl ⟨by decide, by decide⟩ ?_
  refine V.istore_n (pc := 1) (i := 1) dX8_firstOf_1 rfl (by decide) (ls' := [(1, vI 0), (0, vI ((n : Nat) : Int))]) rfl ?_
  refine V.iconst (pc := 2) (z := 1) dX8_firstOf_2 rfl ⟨by decide, by decide⟩ ?_
  refine V.istore_n (pc := 3) (i := 2) dX8_firstOf_3 rfl (by decide) (ls' := [(2, vI 1), (1, vI 0), (0, vI ((n : Nat) : Int))]) rfl ?_
  refine V.iconst (pc := 4) (z := 0) dX8_firstOf_4 rfl ⟨by decide, by decide⟩ ?_
  refine V.istore_n (pc := 5) (i := 3) dX8_firstOf_5 rfl (by decide) (ls' := [(3, vI 0), (2, vI 1), (1, vI 0), (0, vI ((n : Nat) : Int))]) rfl ?_
  have lp6 : ∀ (fu6 : Nat) (k : Nat), (k ≤ n) → n - k < fu6 → V eX8_firstOf none K 6 [(0, vI ((n : Nat) : Int)), (1, vI ((f3 k : Nat) : Int)), (2, vI ((p3 k : Nat) : Int)), (3, vI ((k : Nat) : Int))] [] hi hl 0 0 Q := by
    intro fu6
    induction fu6 with
    | zero => intro k hk hm6; exact absurd hm6 (Nat.not_lt_zero _)
    | succ fu6 ih6 =>
      intro k hk hm6
      have hpl := p3_6 (show k ≤ 6 by omega)
      have hfl := f3_mono (show k ≤ 6 by omega)
      have hf6 : f3 6 = 364 := rfl
      refine V.iload_n (pc := 6) 3 dX8_firstOf_6 rfl ?_
      refine V.iload_n (pc := 7) 0 dX8_firstOf_7 rfl ?_
      refine V.icmp_ge (pc := 8) 25 dX8_firstOf_8 (by decide) (fun h8 => ?_) (fun h8 => ?_)
      · skip
        refine V.iload_n (pc := 25) 1 dX8_firstOf_25 rfl ?_
        refine V.iret (pc := 26) (z := ((f3 k : Nat) : Int)) dX8_firstOf_26 rfl ?_
        have e : k = n := by omega
        subst e
        exact hq
      · skip
        refine V.iload_n (pc := 11) 1 dX8_firstOf_11 rfl ?_
        refine V.iload_n (pc := 12) 2 dX8_firstOf_12 rfl ?_
        refine V.iadd (pc := 13) (((f3 (k + 1) : Nat) : Int)) dX8_firstOf_13 (by rw [f3_s]; exact addN (by omega)) ?_
        refine V.istore_n (pc := 14) (i := 1) dX8_firstOf_14 rfl (by decide) (ls' := [(1, vI ((f3 (k + 1) : Nat) : Int)), (0, vI ((n : Nat) : Int)), (2, vI ((p3 k : Nat) : Int)), (3, vI ((k : Nat) : Int))]) rfl ?_
        refine V.iload_n (pc := 15) 2 dX8_firstOf_15 rfl ?_
        refine V.iconst (pc := 16) (z := 3) dX8_firstOf_16 rfl ⟨by decide, by decide⟩ ?_
        refine V.imul (pc := 17) (((p3 (k + 1) : Nat) : Int)) dX8_firstOf_17 (by rw [p3_s, Nat.mul_comm]; exact mulN (a := p3 k) (b := 3) (by omega)) ?_
        refine V.istore_n (pc := 18) (i := 2) dX8_firstOf_18 rfl (by decide) (ls' := [(2, vI ((p3 (k + 1) : Nat) : Int)), (1, vI ((f3 (k + 1) : Nat) : Int)), (0, vI ((n : Nat) : Int)), (3, vI ((k : Nat) : Int))]) rfl ?_
        refine V.iinc (pc := 19) (r := ((k + 1 : Nat) : Int)) 3 dX8_firstOf_19 rfl (w32_of (by omega) (by omega) (by omega)) (by decide) (ls' := [(3, vI ((k + 1 : Nat) : Int)), (2, vI ((p3 (k + 1) : Nat) : Int)), (1, vI ((f3 (k + 1) : Nat) : Int)), (0, vI ((n : Nat) : Int))]) rfl ?_
        refine V.goto (pc := 22) 6 dX8_firstOf_22 (by decide) ?_
        refine V.locs [3, 2, 1, 0] (ls' := [(0, vI ((n : Nat) : Int)), (1, vI ((f3 (k + 1) : Nat) : Int)), (2, vI ((p3 (k + 1) : Nat) : Int)), (3, vI ((k + 1 : Nat) : Int))]) rfl ?_
        exact ih6 (k + 1) (by omega) (by omega)
  refine V.locs [3, 2, 1, 0] (ls' := [(0, vI ((n : Nat) : Int)), (1, vI 0), (2, vI 1), (3, vI 0)]) rfl ?_
  exact lp6 _ 0 (by omega) (Nat.lt_succ_self _)

set_option maxRecDepth 100000 in
theorem c_X8_wordsOf (K : KK) (hi hl : HI) (v : Nat) (hv : v < 364) (Q : QT) (hq : Q (some (vI (L3 v : Nat))) K hi hl) : Con eX8_wordsOf [vI (v : Nat)] K hi hl Q := by
  refine Con.ofV (by decide +kernel) (Nat.le_of_ble_eq_true rfl) ?_
  show V eX8_wordsOf none K 0 [(0, vI ((v : Nat) : Int))] [] hi hl 0 0 Q
  refine V.iconst (pc := 0) (z := 0) dX8_wordsOf_0 rfl ⟨by decide, by decide⟩ ?_
  refine V.istore_n (pc := 1) (i := 1) dX8_wordsOf_1 rfl (by decide) (ls' := [(1, vI 0), (0, vI ((v : Nat) : Int))]) rfl ?_
  have lp2 : ∀ (fu2 : Nat) (k : Nat), (k ≤ L3 v) → L3 v - k < fu2 → V eX8_wordsOf none K 2 [(0, vI ((v : Nat) : Int)), (1, vI ((k : Nat) : Int))] [] hi hl 0 0 Q := by
    intro fu2
    induction fu2 with
    | zero => intro k hk hm2; exact absurd hm2 (Nat.not_lt_zero _)
    | succ fu2 ih2 =>
      intro k hk hm2
      have hL := L3_le v
      obtain ⟨q1, q2, q3⟩ := L3_f hv
      refine V.iload_n (pc := 2) 1 dX8_wordsOf_2 rfl ?_
      refine V.iconst (pc := 3) (z := 1) dX8_wordsOf_3 rfl ⟨by decide, by decide⟩ ?_
      refine V.iadd (pc := 4) ((((k + 1) : Nat) : Int)) dX8_wordsOf_4 (addN (a := k) (b := 1) (by omega)) ?_
      refine V.callS (pc := 5) (e1 := eX8_firstOf) 1 [vI (((k + 1) : Nat) : Int)] [] mfX8_firstOf slX8_firstOf mlX8_76 dX8_wordsOf_5 rfl rfl (Nat.le_of_ble_eq_true rfl) ⟨by decide, by decide, by decide, by decide⟩ ?_
      refine c_X8_firstOf K hi hl (k + 1) (by omega) _ ?_
      refine V.qI (pc := 5) rfl rfl ?_
      refine V.iload_n (pc := 8) 0 dX8_wordsOf_8 rfl ?_
      refine V.icmp_gt (pc := 9) 18 dX8_wordsOf_9 (by decide) (fun h9 => ?_) (fun h9 => ?_)
      · skip
        refine V.iload_n (pc := 18) 1 dX8_wordsOf_18 rfl ?_
        refine V.iret (pc := 19) (z := ((k : Nat) : Int)) dX8_wordsOf_19 rfl ?_
        have e : k = L3 v := by rcases Nat.lt_or_ge k (L3 v) with q | q; { have := f3_mono (show k + 1 ≤ L3 v by omega); omega }; { omega }
        subst e
        exact hq
      · skip
        refine V.iinc (pc := 12) (r := ((k + 1 : Nat) : Int)) 1 dX8_wordsOf_12 rfl (w32_of (by omega) (by omega) (by omega)) (by decide) (ls' := [(1, vI ((k + 1 : Nat) : Int)), (0, vI ((v : Nat) : Int))]) rfl ?_
        refine V.goto (pc := 15) 2 dX8_wordsOf_15 (by decide) ?_
        refine V.locs [1, 0] (ls' := [(0, vI ((v : Nat) : Int)), (1, vI ((k + 1 : Nat) : Int))]) rfl ?_
        have hkl : k < L3 v := by rcases Nat.lt_or_ge k (L3 v) with q | q; { exact q }; { have := f3_mono (show L3 v + 1 ≤ k + 1 by omega); have e := f3_s (L3 v); omega }
        exact ih2 (k + 1) (by omega) (by omega)
  refine V.locs [1, 0] (ls' := [(0, vI ((v : Nat) : Int)), (1, vI 0)]) rfl ?_
  exact lp2 _ 0 (by omega) (Nat.lt_succ_self _)

set_option maxRecDepth 100000 in
theorem c_X8_lay (hi hl : HI) (v : Nat) (hv : v < 364) (Q : QT) (hq : ∀ g : Nat → Int, (∀ i, i < L3 v → g i = (wd v i : Nat)) → Q none KW (upR (upR hi 77 (updF (hi 77) 1 (L3 v : Nat))) 78 g) hl) : Con eX8_lay [vR 77, vI (v : Nat)] KW hi hl Q := by
  refine Con.ofV (by decide +kernel) (Nat.le_of_ble_eq_true rfl) ?_
  show V eX8_lay none KW 0 [(0, vR 77), (1, vI ((v : Nat) : Int))] [] hi hl 0 0 Q
  refine V.hieq (hi' := (upR (upR hi 77 (hi 77)) 78 (hi 78))) (by rw [upR_id, upR_id]) ?_
  have hL := L3_le v
  obtain ⟨q1, q2, q3⟩ := L3_f hv
  refine V.aload_n (pc := 0) 0 dX8_lay_0 rfl ?_
  refine V.iload_n (pc := 1) 1 dX8_lay_1 rfl ?_
  refine V.callS (pc := 2) (e1 := eX8_wordsOf) 1 [vI ((v : Nat) : Int)] [vR 77] mfX8_wordsOf slX8_wordsOf mlX8_80 dX8_lay_2 rfl rfl (Nat.le_of_ble_eq_true rfl) ⟨by decide, by decide, by decide, by decide⟩ ?_
  refine c_X8_wordsOf KW (upR (upR hi 77 (hi 77)) 78 (hi 78)) hl v (by omega) _ ?_
  refine V.qI (pc := 2) rfl rfl ?_
  refine V.pi (pc := 5) (hi' := (upR (upR hi 77 (updF (hi 77) 1 ((L3 v : Nat) : Int))) 78 (hi 78))) 8 1 flX8_83 dX8_lay_5 (kS_77) (by decide) (by decide) rfl rfl (us (by decide) u1) ?_
  refine V.iload_n (pc := 8) 1 dX8_lay_8 rfl ?_
  refine V.aload_n (pc := 9) 0 dX8_lay_9 rfl ?_
  refine V.gi (pc := 10) 8 1 ((L3 v : Nat) : Int) flX8_83 dX8_lay_10 (kS_77) (by decide) (by decide) rfl (rfl) ?_
  refine V.callS (pc := 13) (e1 := eX8_firstOf) 1 [vI ((L3 v : Nat) : Int)] [vI ((v : Nat) : Int)] mfX8_firstOf slX8_firstOf mlX8_76 dX8_lay_13 rfl rfl (Nat.le_of_ble_eq_true rfl) ⟨by decide, by decide, by decide, by decide⟩ ?_
  refine c_X8_firstOf KW (upR (upR hi 77 (updF (hi 77) 1 ((L3 v : Nat) : Int))) 78 (hi 78)) hl (L3 v) (by omega) _ ?_
  refine V.qI (pc := 13) rfl rfl ?_
  refine V.isub (pc := 16) ((((v - f3 (L3 v)) : Nat) : Int)) dX8_lay_16 (subN (a := v) (b := f3 (L3 v)) (by omega) (by omega)) ?_
  refine V.top (v' := vI (((v - f3 (L3 v)) / p3 (L3 v - L3 v) : Nat) : Int)) (by rw [Nat.sub_self, show p3 0 = 1 from rfl, Nat.div_one]) ?_
  refine V.istore_n (pc := 17) (i := 2) dX8_lay_17 rfl (by decide) (ls' := [(2, vI (((v - f3 (L3 v)) / p3 (L3 v - L3 v) : Nat) : Int)), (0, vR 77), (1, vI ((v : Nat) : Int))]) rfl ?_
  refine V.aload_n (pc := 18) 1 dX8_lay_18 rfl ?_
  refine V.gi (pc := 19) 8 1 ((L3 v : Nat) : Int) flX8_83 dX8_lay_19 (kS_77) (by decide) (by decide) rfl (rfl) ?_
  refine V.iconst (pc := 22) (z := 1) dX8_lay_22 rfl ⟨by decide, by decide⟩ ?_
  refine V.isub (pc := 23) ((((L3 v : Nat) : Int) - 1)) dX8_lay_23 (w32_of (by omega) (by omega) (by omega)) ?_
  refine V.istore_n (pc := 24) (i := 3) dX8_lay_24 rfl (by decide) (ls' := [(3, vI (((L3 v : Nat) : Int) - 1)), (2, vI (((v - f3 (L3 v)) / p3 (L3 v - L3 v) : Nat) : Int)), (0, vR 77), (1, vI ((v : Nat) : Int))]) rfl ?_
  have lp25 : ∀ (fu25 : Nat) (k : Nat) (g : Nat → Int), (k ≤ L3 v) → (∀ i, i < L3 v → k ≤ i → g i = (wd v i : Nat)) → k < fu25 → V eX8_lay none KW 25 [(0, vR 77), (1, vI ((v : Nat) : Int)), (2, vI (((v - f3 (L3 v)) / p3 (L3 v - k) : Nat) : Int)), (3, vI ((k : Int) - 1))] [] (upR (upR hi 77 (updF (hi 77) 1 ((L3 v : Nat) : Int))) 78 g) hl 0 0 Q := by
    intro fu25
    induction fu25 with
    | zero => intro k g hk h1 hm25; exact absurd hm25 (Nat.not_lt_zero _)
    | succ fu25 ih25 =>
      intro k g hk h1 hm25
      have hdl := Nat.div_le_self (v - f3 (L3 v)) (p3 (L3 v - k))
      refine V.iload_n (pc := 25) 3 dX8_lay_25 rfl ?_
      refine V.if_lt (pc := 26) 48 dX8_lay_26 (by decide) (fun h26 => ?_) (fun h26 => ?_)
      · skip
        refine V.vret (pc := 48) dX8_lay_48 rfl ?_
        exact hq _ (fun i hi => h1 i hi (by omega))
      · have hk1 : 1 ≤ k := by omega
        refine V.aload_n (pc := 29) 0 dX8_lay_29 rfl ?_
        refine V.gr (pc := 30) 8 0 78 flX8_7 dX8_lay_30 (kS_77) (by decide) (by decide) rfl (kR_77_0) ?_
        refine V.iload_n (pc := 33) 3 dX8_lay_33 rfl ?_
        refine V.iload_n (pc := 34) 2 dX8_lay_34 rfl ?_
        refine V.iconst (pc := 35) (z := 3) dX8_lay_35 rfl ⟨by decide, by decide⟩ ?_
        refine V.irem (pc := 36) (((((v - f3 (L3 v)) / p3 (L3 v - k)) % 3 : Nat) : Int)) dX8_lay_36 (by omega) (mN (a := ((v - f3 (L3 v)) / p3 (L3 v - k))) (b := 3) (by omega) (by omega) (by omega)) (rI_n (by omega)) ?_
        refine V.is (pc := 37) (len := 8) (hi' := (upR (upR hi 77 (updF (hi 77) 1 ((L3 v : Nat) : Int))) 78 (updF g (k - 1) ((((v - f3 (L3 v)) / p3 (L3 v - k)) % 3 : Nat) : Int)))) (k - 1) dX8_lay_37 (kS_78) (by omega) (by omega) u1 ?_
        refine V.iload_n (pc := 38) 2 dX8_lay_38 rfl ?_
        refine V.iconst (pc := 39) (z := 3) dX8_lay_39 rfl ⟨by decide, by decide⟩ ?_
        refine V.idiv (pc := 40) ((((v - f3 (L3 v)) / p3 (L3 v - (k - 1)) : Nat) : Int)) dX8_lay_40 (by omega) (by rw [show L3 v - (k - 1) = (L3 v - k) + 1 by omega, ← div_s]; exact dN (a := (v - f3 (L3 v)) / p3 (L3 v - k)) (b := 3) (by omega) (by omega) (by omega)) (rI_n (by have hx := Nat.div_le_self (v - f3 (L3 v)) (p3 (L3 v - (k - 1))); omega)) ?_
        refine V.istore_n (pc := 41) (i := 2) dX8_lay_41 rfl (by decide) (ls' := [(2, vI (((v - f3 (L3 v)) / p3 (L3 v - (k - 1)) : Nat) : Int)), (0, vR 77), (1, vI ((v : Nat) : Int)), (3, vI ((k : Int) - 1))]) rfl ?_
        refine V.iinc (pc := 42) (r := (((k - 1 : Nat) : Int) - 1)) 3 dX8_lay_42 rfl (w32_of (by omega) (by omega) (by omega)) (by decide) (ls' := [(3, vI (((k - 1 : Nat) : Int) - 1)), (2, vI (((v - f3 (L3 v)) / p3 (L3 v - (k - 1)) : Nat) : Int)), (0, vR 77), (1, vI ((v : Nat) : Int))]) rfl ?_
        refine V.goto (pc := 45) 25 dX8_lay_45 (by decide) ?_
        refine V.locs [2, 3, 1, 0] (ls' := [(0, vR 77), (1, vI ((v : Nat) : Int)), (2, vI (((v - f3 (L3 v)) / p3 (L3 v - (k - 1)) : Nat) : Int)), (3, vI (((k - 1 : Nat) : Int) - 1))]) rfl ?_
        exact ih25 (k - 1) (updF g (k - 1) ((((v - f3 (L3 v)) / p3 (L3 v - k)) % 3 : Nat) : Int)) (by omega) (fun i hi hj => by by_cases e : i = k - 1; { rw [e, updF_s]; unfold wd; rw [show L3 v - 1 - (k - 1) = L3 v - k by omega] }; { rw [updF_n e]; exact h1 i hi (by omega) }) (by omega)
  refine V.locs [2, 3, 1, 0] (ls' := [(0, vR 77), (1, vI ((v : Nat) : Int)), (2, vI (((v - f3 (L3 v)) / p3 (L3 v - L3 v) : Nat) : Int)), (3, vI (((L3 v : Nat) : Int) - 1))]) rfl ?_
  exact lp25 _ (L3 v) (hi 78) (by omega) (fun i hi hj => by omega) (Nat.lt_succ_self _)

set_option maxRecDepth 100000 in
theorem c_X8_signAt (hi hl : HI) (o : Option Nat) (ho : ∀ v, o = some v → v < 364) (i : Int) (hi0 : -2147483648 ≤ i ∧ i < 2147483648) (Q : QT) (hq : ∀ f g : Nat → Int, (∀ j, j ≠ 1 → f j = hi 77 j) → Q (some (vI (wordO (encC o) i))) KW (upR (upR hi 77 f) 78 g) hl) : Con eX8_signAt [vR 77, vI (encM o), vI i] KW hi hl Q := by
  refine Con.ofV (by decide +kernel) (Nat.le_of_ble_eq_true rfl) ?_
  show V eX8_signAt none KW 0 [(0, vR 77), (1, vI (encM o)), (2, vI i)] [] hi hl 0 0 Q
  refine V.hieq (hi' := (upR (upR hi 77 (hi 77)) 78 (hi 78))) (by rw [upR_id, upR_id]) ?_
  refine V.iload_n (pc := 0) 1 dX8_signAt_0 rfl ?_
  refine V.if_ge (pc := 1) 7 dX8_signAt_1 (by decide) (fun h1 => ?_) (fun h1 => ?_)
  · obtain ⟨v, hv⟩ : ∃ v, o = some v := by cases o with | none => exact absurd h1 (by decide) | some v => exact ⟨v, rfl⟩
    have hvl := ho v hv
    have hL := L3_le v
    subst hv
    refine V.aload_n (pc := 7) 0 dX8_signAt_7 rfl ?_
    refine V.iload_n (pc := 8) 1 dX8_signAt_8 rfl ?_
    refine V.top (v' := vI ((v : Nat) : Int)) (rfl) ?_
    refine V.callV (pc := 9) (e1 := eX8_lay) (o := 77) (c := 8) 1 [vI ((v : Nat) : Int)] [] mfX8_lay slX8_lay mlX8_86 dX8_signAt_9 (kS_77) (by decide) rfl rfl rfl (Nat.le_of_ble_eq_true rfl) ⟨by decide, by decide, by decide, by decide⟩ ?_
    refine c_X8_lay (upR (upR hi 77 (hi 77)) 78 (hi 78)) hl v (by omega) _ (fun gly hly => ?_)
    refine V.qV (pc := 9) rfl rfl ?_
    refine V.hieq (hi' := (upR (upR hi 77 (updF (hi 77) 1 ((L3 v : Nat) : Int))) 78 gly)) ((upR_c (rs (by decide) r1)).trans r1) ?_
    refine V.iload_n (pc := 12) 2 dX8_signAt_12 rfl ?_
    refine V.iconst (pc := 13) (z := (-1)) dX8_signAt_13 rfl ⟨by decide, by decide⟩ ?_
    refine V.icmp_ne (pc := 14) 24 dX8_signAt_14 (by decide) (fun h14 => ?_) (fun h14 => ?_)
    · skip
      refine V.iload_n (pc := 24) 2 dX8_signAt_24 rfl ?_
      refine V.i2l (pc := 25) dX8_signAt_25 ?_
      refine V.lconst (pc := 26) (z := 0) dX8_signAt_26 (by decide +kernel) ⟨by decide, by decide⟩ ?_
      refine V.aload_n (pc := 27) 0 dX8_signAt_27 rfl ?_
      refine V.gi (pc := 28) 8 1 ((L3 v : Nat) : Int) flX8_83 dX8_signAt_28 (kS_77) (by decide) (by decide) rfl (rfl) ?_
      refine V.iconst (pc := 31) (z := 1) dX8_signAt_31 rfl ⟨by decide, by decide⟩ ?_
      refine V.isub (pc := 32) (((L3 v : Int) - 1)) dX8_signAt_32 (w32_of (by omega) (by omega) (by omega)) ?_
      refine V.i2l (pc := 33) dX8_signAt_33 ?_
      refine V.callS (pc := 34) (e1 := eX8_in) 3 [vL i, vL 0, vL ((L3 v : Int) - 1)] [] mfX8_in slX8_in mlX8_72 dX8_signAt_34 rfl rfl (Nat.le_of_ble_eq_true rfl) ⟨by decide, by decide, by decide, by decide⟩ ?_
      refine c_X8_in KW (upR (upR hi 77 (updF (hi 77) 1 ((L3 v : Nat) : Int))) 78 gly) hl i 0 ((L3 v : Int) - 1) _ (fun hin => ?_) (fun hin => ?_)
      · skip
        refine V.qI (pc := 34) rfl rfl ?_
        refine V.if_eq (pc := 37) 52 dX8_signAt_37 (by decide) (fun hc => by exact absurd hc (by decide)) (fun h37 => ?_)
        refine V.bipush (pc := 40) (z := 97) dX8_signAt_40 (by decide +kernel) ⟨by decide, by decide⟩ ?_
        refine V.aload_n (pc := 42) 0 dX8_signAt_42 rfl ?_
        obtain ⟨j, rfl⟩ : ∃ j : Nat, i = (j : Int) := ⟨i.toNat, by omega⟩
        refine V.gr (pc := 43) 8 0 78 flX8_7 dX8_signAt_43 (kS_77) (by decide) (by decide) rfl (kR_77_0) ?_
        refine V.iload_n (pc := 46) 2 dX8_signAt_46 rfl ?_
        have hwd : wd v j < 3 := Nat.mod_lt _ (by decide)
        refine V.ia (pc := 47) (len := 8) j ((wd v j : Nat) : Int) dX8_signAt_47 (kS_78) (rfl) (by omega) (hly j (by omega)) ?_
        refine V.iadd (pc := 48) (((97 + (wd v j) : Nat) : Int)) dX8_signAt_48 (addN (a := 97) (b := wd v j) (by omega)) ?_
        refine V.goto (pc := 49) 54 dX8_signAt_49 (by decide) ?_
        refine V.iret (pc := 54) (z := ((97 + (wd v j) : Nat) : Int)) dX8_signAt_54 rfl ?_
        rw [show wordO (encC (some v)) (j : Int) = ((97 + wd v j : Nat) : Int) from wordO_s.trans (wordS_in (by omega))] at hq
        exact hq _ _ (fun j hj => updF_n hj)
      · skip
        refine V.qI (pc := 34) rfl rfl ?_
        refine V.if_eq (pc := 37) 52 dX8_signAt_37 (by decide) (fun h37 => ?_) (fun hc => by exact absurd hc (by decide))
        refine V.bipush (pc := 52) (z := (-6)) dX8_signAt_52 (by decide +kernel) ⟨by decide, by decide⟩ ?_
        refine V.iret (pc := 54) (z := (-6)) dX8_signAt_54 rfl ?_
        rw [show wordO (encC (some v)) i = -6 from (wordO_s).trans (wordS_out (by omega) (by omega))] at hq
        exact hq _ _ (fun j hj => updF_n hj)
    · skip
      refine V.aload_n (pc := 17) 0 dX8_signAt_17 rfl ?_
      refine V.gi (pc := 18) 8 1 ((L3 v : Nat) : Int) flX8_83 dX8_signAt_18 (kS_77) (by decide) (by decide) rfl (rfl) ?_
      refine V.goto (pc := 21) 54 dX8_signAt_21 (by decide) ?_
      refine V.iret (pc := 54) (z := ((L3 v : Nat) : Int)) dX8_signAt_54 rfl ?_
      rw [show wordO (encC (some v)) i = (L3 v : Nat) by rw [show i = -1 by omega]; exact wordO_s.trans (wordS_len v)] at hq
      exact hq _ _ (fun j hj => updF_n hj)
  · have hn := encM_none.mp (show encM o < 0 by omega)
    refine V.bipush (pc := 4) (z := (-6)) dX8_signAt_4 (by decide +kernel) ⟨by decide, by decide⟩ ?_
    refine V.iret (pc := 6) (z := (-6)) dX8_signAt_6 rfl ?_
    rw [hn] at hq
    exact hq _ _ (fun _ _ => rfl)

set_option maxRecDepth 100000 in
theorem c_X8_numberWith (hi hl : HI) (v : Nat) (hv : v < 364) (hw1 : hi 77 1 = (L3 v : Nat)) (hwd : ∀ i, i < L3 v → hi 78 i = (wd v i : Nat)) (how p w : Nat) (h1 : 1 ≤ how) (h3 : how < 4) (hp : p < spP how v) (hw : w < 3) (Q : QT) (hq : Q (some (vI (sp how v p w : Nat))) KW hi hl) : Con eX8_numberWith [vR 77, vI (how : Nat), vI (p : Nat), vI (w : Nat)] KW hi hl Q := by
  refine Con.ofV (by decide +kernel) (Nat.le_of_ble_eq_true rfl) ?_
  show V eX8_numberWith none KW 0 [(0, vR 77), (1, vI ((how : Nat) : Int)), (2, vI ((p : Nat) : Int)), (3, vI ((w : Nat) : Int))] [] hi hl 0 0 Q
  have hL := L3_le v
  have hpp : (how = 3 ∧ L3 v ≤ 4 ∧ p ≤ L3 v) ∨ (how ≠ 3 ∧ p < L3 v) := by unfold spP at hp; split at hp; { split at hp <;> omega }; { omega }
  have hsp := nw_sp v hv how h3 h1 p hp w hw
  have ct32 : ∀ (mn : Nat), (mn = nwM how v) → V eX8_numberWith none KW 32 [(0, vR 77), (1, vI ((how : Nat) : Int)), (2, vI ((p : Nat) : Int)), (3, vI ((w : Nat) : Int))] [vI ((mn : Nat) : Int)] hi hl 0 0 Q := by
    intro mn hmn
    have hm5 : mn ≤ 5 ∧ (how = 1 → mn = L3 v - 1) ∧ (how = 2 → mn = L3 v) ∧ (how = 3 → mn = L3 v + 1) := by rw [hmn]; unfold nwM; split; { omega }; { split <;> omega }
    refine V.istore (pc := 32) (i := 4) dX8_numberWith_32 (by decide) (ls' := [(4, vI ((mn : Nat) : Int)), (0, vR 77), (1, vI ((how : Nat) : Int)), (2, vI ((p : Nat) : Int)), (3, vI ((w : Nat) : Int))]) rfl ?_
    refine V.iconst (pc := 34) (z := 0) dX8_numberWith_34 rfl ⟨by decide, by decide⟩ ?_
    refine V.istore (pc := 35) (i := 5) dX8_numberWith_35 (by decide) (ls' := [(5, vI 0), (4, vI ((mn : Nat) : Int)), (0, vR 77), (1, vI ((how : Nat) : Int)), (2, vI ((p : Nat) : Int)), (3, vI ((w : Nat) : Int))]) rfl ?_
    refine V.iconst (pc := 37) (z := 0) dX8_numberWith_37 rfl ⟨by decide, by decide⟩ ?_
    refine V.istore (pc := 38) (i := 6) dX8_numberWith_38 (by decide) (ls' := [(6, vI 0), (5, vI 0), (4, vI ((mn : Nat) : Int)), (0, vR 77), (1, vI ((how : Nat) : Int)), (2, vI ((p : Nat) : Int)), (3, vI ((w : Nat) : Int))]) rfl ?_
    have lp40 : ∀ (fu40 : Nat) (k : Nat), (k ≤ mn) → mn - k < fu40 → V eX8_numberWith none KW 40 [(0, vR 77), (1, vI ((how : Nat) : Int)), (2, vI ((p : Nat) : Int)), (3, vI ((w : Nat) : Int)), (4, vI ((mn : Nat) : Int)), (5, vI ((nwV how v p w k : Nat) : Int)), (6, vI ((k : Nat) : Int))] [] hi hl 0 0 Q := by
      intro fu40
      induction fu40 with
      | zero => intro k hk hm40; exact absurd hm40 (Nat.not_lt_zero _)
      | succ fu40 ih40 =>
        intro k hk hm40
        have hvl := nwV_lt (how := how) (v := v) (p := p) hw k
        have hvl2 := nwV_lt (how := how) (v := v) (p := p) hw (k + 1)
        have hpl := p3_6 (show k ≤ 6 by omega)
        have hpl2 := p3_6 (show k + 1 ≤ 6 by omega)
        have hwl : ∀ j, wd v j < 3 := fun j => Nat.mod_lt _ (by decide)
        refine V.iload (pc := 40) 6 dX8_numberWith_40 rfl ?_
        refine V.iload (pc := 42) 4 dX8_numberWith_42 rfl ?_
        refine V.icmp_ge (pc := 44) 147 dX8_numberWith_44 (by decide) (fun h44 => ?_) (fun h44 => ?_)
        · skip
          refine V.iload (pc := 147) 4 dX8_numberWith_147 rfl ?_
          refine V.callS (pc := 149) (e1 := eX8_firstOf) 1 [vI ((mn : Nat) : Int)] [] mfX8_firstOf slX8_firstOf mlX8_76 dX8_numberWith_149 rfl rfl (Nat.le_of_ble_eq_true rfl) ⟨by decide, by decide, by decide, by decide⟩ ?_
          refine c_X8_firstOf KW hi hl mn (by omega) _ ?_
          refine V.qI (pc := 149) rfl rfl ?_
          refine V.iload (pc := 152) 5 dX8_numberWith_152 rfl ?_
          refine V.iadd (pc := 154) (((sp how v p w : Nat) : Int)) dX8_numberWith_154 (by have e : k = nwM how v := (by omega); subst hmn; rw [← hsp, ← e]; exact addN (by have := f3_mono (show k ≤ 6 by omega); have e6 : f3 6 = 364 := rfl; omega)) ?_
          refine V.iret (pc := 155) (z := ((sp how v p w : Nat) : Int)) dX8_numberWith_155 rfl ?_
          exact hq
        · skip
          refine V.iload_n (pc := 47) 1 dX8_numberWith_47 rfl ?_
          refine V.iconst (pc := 48) (z := 1) dX8_numberWith_48 rfl ⟨by decide, by decide⟩ ?_
          refine V.icmp_ne (pc := 49) 75 dX8_numberWith_49 (by decide) (fun h49 => ?_) (fun h49 => ?_)
          · skip
            refine V.iload_n (pc := 75) 1 dX8_numberWith_75 rfl ?_
            refine V.iconst (pc := 76) (z := 2) dX8_numberWith_76 rfl ⟨by decide, by decide⟩ ?_
            refine V.icmp_ne (pc := 77) 100 dX8_numberWith_77 (by decide) (fun h77 => ?_) (fun h77 => ?_)
            · skip
              refine V.iload (pc := 100) 6 dX8_numberWith_100 rfl ?_
              refine V.iload_n (pc := 102) 2 dX8_numberWith_102 rfl ?_
              refine V.icmp_ne (pc := 103) 110 dX8_numberWith_103 (by decide) (fun h103 => ?_) (fun h103 => ?_)
              · skip
                refine V.aload_n (pc := 110) 0 dX8_numberWith_110 rfl ?_
                refine V.gr (pc := 111) 8 0 78 flX8_7 dX8_numberWith_111 (kS_77) (by decide) (by decide) rfl (kR_77_0) ?_
                refine V.iload (pc := 114) 6 dX8_numberWith_114 rfl ?_
                refine V.iload_n (pc := 116) 2 dX8_numberWith_116 rfl ?_
                refine V.icmp_ge (pc := 117) 125 dX8_numberWith_117 (by decide) (fun h117 => ?_) (fun h117 => ?_)
                · skip
                  refine V.iload (pc := 125) 6 dX8_numberWith_125 rfl ?_
                  refine V.iconst (pc := 127) (z := 1) dX8_numberWith_127 rfl ⟨by decide, by decide⟩ ?_
                  refine V.isub (pc := 128) ((((k - 1) : Nat) : Int)) dX8_numberWith_128 (subN (a := k) (b := 1) (by omega) (by omega)) ?_
                  refine V.ia (pc := 129) (len := 8) (k - 1) ((wd v (k - 1) : Nat) : Int) dX8_numberWith_129 (kS_78) (rfl) (by omega) (hwd _ (by omega)) ?_
                  have hwx := hwl (k - 1)
                  refine V.istore (pc := 130) (i := 7) dX8_numberWith_130 (by decide) (ls' := [(7, vI ((wd v (k - 1) : Nat) : Int)), (0, vR 77), (1, vI ((how : Nat) : Int)), (2, vI ((p : Nat) : Int)), (3, vI ((w : Nat) : Int)), (4, vI ((mn : Nat) : Int)), (5, vI ((nwV how v p w k : Nat) : Int)), (6, vI ((k : Nat) : Int))]) rfl ?_
                  refine V.iconst (pc := 132) (z := 3) dX8_numberWith_132 rfl ⟨by decide, by decide⟩ ?_
                  refine V.iload (pc := 133) 6 dX8_numberWith_133 rfl ?_
                  refine V.imul (pc := 135) (((3 * (nwV how v p w k) : Nat) : Int)) dX8_numberWith_135 (mulN (a := 3) (b := nwV how v p w k) (by omega)) ?_
                  refine V.iload (pc := 136) 0 dX8_numberWith_136 rfl ?_
                  refine V.iadd (pc := 138) (((nwV how v p w (k + 1) : Nat) : Int)) dX8_numberWith_138 (nwE (x := wd v (k - 1)) (by show 3 * nwV how v p w k + wx how v p w k = _; unfold wx; repeat (first | rw [if_pos (by omega)] | rw [if_neg (by omega)])) (by omega)) ?_
                  refine V.istore (pc := 139) (i := 5) dX8_numberWith_139 (by decide) (ls' := [(5, vI ((nwV how v p w (k + 1) : Nat) : Int)), (7, vI ((wd v (k - 1) : Nat) : Int)), (0, vR 77), (1, vI ((how : Nat) : Int)), (2, vI ((p : Nat) : Int)), (3, vI ((w : Nat) : Int)), (4, vI ((mn : Nat) : Int)), (6, vI ((k : Nat) : Int))]) rfl ?_
                  refine V.iinc (pc := 141) (r := ((k + 1 : Nat) : Int)) 7 dX8_numberWith_141 rfl (w32_of (by omega) (by omega) (by omega)) (by decide) (ls' := [(6, vI ((k + 1 : Nat) : Int)), (5, vI ((nwV how v p w (k + 1) : Nat) : Int)), (7, vI ((wd v (k - 1) : Nat) : Int)), (0, vR 77), (1, vI ((how : Nat) : Int)), (2, vI ((p : Nat) : Int)), (3, vI ((w : Nat) : Int)), (4, vI ((mn : Nat) : Int))]) rfl ?_
                  refine V.goto (pc := 144) 40 dX8_numberWith_144 (by decide) ?_
                  refine V.locs [3, 4, 5, 6, 7, 1, 0] (ls' := [(0, vR 77), (1, vI ((how : Nat) : Int)), (2, vI ((p : Nat) : Int)), (3, vI ((w : Nat) : Int)), (4, vI ((mn : Nat) : Int)), (5, vI ((nwV how v p w (k + 1) : Nat) : Int)), (6, vI ((k + 1 : Nat) : Int))]) rfl ?_
                  exact ih40 (k + 1) (by omega) (by omega)
                · skip
                  refine V.iload (pc := 120) 6 dX8_numberWith_120 rfl ?_
                  refine V.goto (pc := 122) 129 dX8_numberWith_122 (by decide) ?_
                  refine V.ia (pc := 129) (len := 8) k ((wd v k : Nat) : Int) dX8_numberWith_129 (kS_78) (rfl) (by omega) (hwd _ (by omega)) ?_
                  have hwx := hwl k
                  refine V.istore (pc := 130) (i := 7) dX8_numberWith_130 (by decide) (ls' := [(7, vI ((wd v k : Nat) : Int)), (0, vR 77), (1, vI ((how : Nat) : Int)), (2, vI ((p : Nat) : Int)), (3, vI ((w : Nat) : Int)), (4, vI ((mn : Nat) : Int)), (5, vI ((nwV how v p w k : Nat) : Int)), (6, vI ((k : Nat) : Int))]) rfl ?_
                  refine V.iconst (pc := 132) (z := 3) dX8_numberWith_132 rfl ⟨by decide, by decide⟩ ?_
                  refine V.iload (pc := 133) 6 dX8_numberWith_133 rfl ?_
                  refine V.imul (pc := 135) (((3 * (nwV how v p w k) : Nat) : Int)) dX8_numberWith_135 (mulN (a := 3) (b := nwV how v p w k) (by omega)) ?_
                  refine V.iload (pc := 136) 0 dX8_numberWith_136 rfl ?_
                  refine V.iadd (pc := 138) (((nwV how v p w (k + 1) : Nat) : Int)) dX8_numberWith_138 (nwE (x := wd v k) (by show 3 * nwV how v p w k + wx how v p w k = _; unfold wx; repeat (first | rw [if_pos (by omega)] | rw [if_neg (by omega)])) (by omega)) ?_
                  refine V.istore (pc := 139) (i := 5) dX8_numberWith_139 (by decide) (ls' := [(5, vI ((nwV how v p w (k + 1) : Nat) : Int)), (7, vI ((wd v k : Nat) : Int)), (0, vR 77), (1, vI ((how : Nat) : Int)), (2, vI ((p : Nat) : Int)), (3, vI ((w : Nat) : Int)), (4, vI ((mn : Nat) : Int)), (6, vI ((k : Nat) : Int))]) rfl ?_
                  refine V.iinc (pc := 141) (r := ((k + 1 : Nat) : Int)) 7 dX8_numberWith_141 rfl (w32_of (by omega) (by omega) (by omega)) (by decide) (ls' := [(6, vI ((k + 1 : Nat) : Int)), (5, vI ((nwV how v p w (k + 1) : Nat) : Int)), (7, vI ((wd v k : Nat) : Int)), (0, vR 77), (1, vI ((how : Nat) : Int)), (2, vI ((p : Nat) : Int)), (3, vI ((w : Nat) : Int)), (4, vI ((mn : Nat) : Int))]) rfl ?_
                  refine V.goto (pc := 144) 40 dX8_numberWith_144 (by decide) ?_
                  refine V.locs [3, 4, 5, 6, 7, 1, 0] (ls' := [(0, vR 77), (1, vI ((how : Nat) : Int)), (2, vI ((p : Nat) : Int)), (3, vI ((w : Nat) : Int)), (4, vI ((mn : Nat) : Int)), (5, vI ((nwV how v p w (k + 1) : Nat) : Int)), (6, vI ((k + 1 : Nat) : Int))]) rfl ?_
                  exact ih40 (k + 1) (by omega) (by omega)
              · skip
                refine V.iload_n (pc := 106) 3 dX8_numberWith_106 rfl ?_
                refine V.goto (pc := 107) 130 dX8_numberWith_107 (by decide) ?_
                refine V.istore (pc := 130) (i := 7) dX8_numberWith_130 (by decide) (ls' := [(7, vI ((w : Nat) : Int)), (0, vR 77), (1, vI ((how : Nat) : Int)), (2, vI ((p : Nat) : Int)), (3, vI ((w : Nat) : Int)), (4, vI ((mn : Nat) : Int)), (5, vI ((nwV how v p w k : Nat) : Int)), (6, vI ((k : Nat) : Int))]) rfl ?_
                refine V.iconst (pc := 132) (z := 3) dX8_numberWith_132 rfl ⟨by decide, by decide⟩ ?_
                refine V.iload (pc := 133) 6 dX8_numberWith_133 rfl ?_
                refine V.imul (pc := 135) (((3 * (nwV how v p w k) : Nat) : Int)) dX8_numberWith_135 (mulN (a := 3) (b := nwV how v p w k) (by omega)) ?_
                refine V.iload (pc := 136) 0 dX8_numberWith_136 rfl ?_
                refine V.iadd (pc := 138) (((nwV how v p w (k + 1) : Nat) : Int)) dX8_numberWith_138 (nwE (x := w) (by show 3 * nwV how v p w k + wx how v p w k = _; unfold wx; repeat (first | rw [if_pos (by omega)] | rw [if_neg (by omega)])) (by omega)) ?_
                refine V.istore (pc := 139) (i := 5) dX8_numberWith_139 (by decide) (ls' := [(5, vI ((nwV how v p w (k + 1) : Nat) : Int)), (7, vI ((w : Nat) : Int)), (0, vR 77), (1, vI ((how : Nat) : Int)), (2, vI ((p : Nat) : Int)), (3, vI ((w : Nat) : Int)), (4, vI ((mn : Nat) : Int)), (6, vI ((k : Nat) : Int))]) rfl ?_
                refine V.iinc (pc := 141) (r := ((k + 1 : Nat) : Int)) 7 dX8_numberWith_141 rfl (w32_of (by omega) (by omega) (by omega)) (by decide) (ls' := [(6, vI ((k + 1 : Nat) : Int)), (5, vI ((nwV how v p w (k + 1) : Nat) : Int)), (7, vI ((w : Nat) : Int)), (0, vR 77), (1, vI ((how : Nat) : Int)), (2, vI ((p : Nat) : Int)), (3, vI ((w : Nat) : Int)), (4, vI ((mn : Nat) : Int))]) rfl ?_
                refine V.goto (pc := 144) 40 dX8_numberWith_144 (by decide) ?_
                refine V.locs [3, 4, 5, 6, 7, 1, 0] (ls' := [(0, vR 77), (1, vI ((how : Nat) : Int)), (2, vI ((p : Nat) : Int)), (3, vI ((w : Nat) : Int)), (4, vI ((mn : Nat) : Int)), (5, vI ((nwV how v p w (k + 1) : Nat) : Int)), (6, vI ((k + 1 : Nat) : Int))]) rfl ?_
                exact ih40 (k + 1) (by omega) (by omega)
            · skip
              refine V.iload (pc := 80) 6 dX8_numberWith_80 rfl ?_
              refine V.iload_n (pc := 82) 2 dX8_numberWith_82 rfl ?_
              refine V.icmp_ne (pc := 83) 90 dX8_numberWith_83 (by decide) (fun h83 => ?_) (fun h83 => ?_)
              · skip
                refine V.aload_n (pc := 90) 0 dX8_numberWith_90 rfl ?_
                refine V.gr (pc := 91) 8 0 78 flX8_7 dX8_numberWith_91 (kS_77) (by decide) (by decide) rfl (kR_77_0) ?_
                refine V.iload (pc := 94) 6 dX8_numberWith_94 rfl ?_
                refine V.ia (pc := 96) (len := 8) k ((wd v k : Nat) : Int) dX8_numberWith_96 (kS_78) (rfl) (by omega) (hwd _ (by omega)) ?_
                have hwx := hwl k
                refine V.goto (pc := 97) 130 dX8_numberWith_97 (by decide) ?_
                refine V.istore (pc := 130) (i := 7) dX8_numberWith_130 (by decide) (ls' := [(7, vI ((wd v k : Nat) : Int)), (0, vR 77), (1, vI ((how : Nat) : Int)), (2, vI ((p : Nat) : Int)), (3, vI ((w : Nat) : Int)), (4, vI ((mn : Nat) : Int)), (5, vI ((nwV how v p w k : Nat) : Int)), (6, vI ((k : Nat) : Int))]) rfl ?_
                refine V.iconst (pc := 132) (z := 3) dX8_numberWith_132 rfl ⟨by decide, by decide⟩ ?_
                refine V.iload (pc := 133) 6 dX8_numberWith_133 rfl ?_
                refine V.imul (pc := 135) (((3 * (nwV how v p w k) : Nat) : Int)) dX8_numberWith_135 (mulN (a := 3) (b := nwV how v p w k) (by omega)) ?_
                refine V.iload (pc := 136) 0 dX8_numberWith_136 rfl ?_
                refine V.iadd (pc := 138) (((nwV how v p w (k + 1) : Nat) : Int)) dX8_numberWith_138 (nwE (x := wd v k) (by show 3 * nwV how v p w k + wx how v p w k = _; unfold wx; repeat (first | rw [if_pos (by omega)] | rw [if_neg (by omega)])) (by omega)) ?_
                refine V.istore (pc := 139) (i := 5) dX8_numberWith_139 (by decide) (ls' := [(5, vI ((nwV how v p w (k + 1) : Nat) : Int)), (7, vI ((wd v k : Nat) : Int)), (0, vR 77), (1, vI ((how : Nat) : Int)), (2, vI ((p : Nat) : Int)), (3, vI ((w : Nat) : Int)), (4, vI ((mn : Nat) : Int)), (6, vI ((k : Nat) : Int))]) rfl ?_
                refine V.iinc (pc := 141) (r := ((k + 1 : Nat) : Int)) 7 dX8_numberWith_141 rfl (w32_of (by omega) (by omega) (by omega)) (by decide) (ls' := [(6, vI ((k + 1 : Nat) : Int)), (5, vI ((nwV how v p w (k + 1) : Nat) : Int)), (7, vI ((wd v k : Nat) : Int)), (0, vR 77), (1, vI ((how : Nat) : Int)), (2, vI ((p : Nat) : Int)), (3, vI ((w : Nat) : Int)), (4, vI ((mn : Nat) : Int))]) rfl ?_
                refine V.goto (pc := 144) 40 dX8_numberWith_144 (by decide) ?_
                refine V.locs [3, 4, 5, 6, 7, 1, 0] (ls' := [(0, vR 77), (1, vI ((how : Nat) : Int)), (2, vI ((p : Nat) : Int)), (3, vI ((w : Nat) : Int)), (4, vI ((mn : Nat) : Int)), (5, vI ((nwV how v p w (k + 1) : Nat) : Int)), (6, vI ((k + 1 : Nat) : Int))]) rfl ?_
                exact ih40 (k + 1) (by omega) (by omega)
              · skip
                refine V.iload_n (pc := 86) 3 dX8_numberWith_86 rfl ?_
                refine V.goto (pc := 87) 130 dX8_numberWith_87 (by decide) ?_
                refine V.istore (pc := 130) (i := 7) dX8_numberWith_130 (by decide) (ls' := [(7, vI ((w : Nat) : Int)), (0, vR 77), (1, vI ((how : Nat) : Int)), (2, vI ((p : Nat) : Int)), (3, vI ((w : Nat) : Int)), (4, vI ((mn : Nat) : Int)), (5, vI ((nwV how v p w k : Nat) : Int)), (6, vI ((k : Nat) : Int))]) rfl ?_
                refine V.iconst (pc := 132) (z := 3) dX8_numberWith_132 rfl ⟨by decide, by decide⟩ ?_
                refine V.iload (pc := 133) 6 dX8_numberWith_133 rfl ?_
                refine V.imul (pc := 135) (((3 * (nwV how v p w k) : Nat) : Int)) dX8_numberWith_135 (mulN (a := 3) (b := nwV how v p w k) (by omega)) ?_
                refine V.iload (pc := 136) 0 dX8_numberWith_136 rfl ?_
                refine V.iadd (pc := 138) (((nwV how v p w (k + 1) : Nat) : Int)) dX8_numberWith_138 (nwE (x := w) (by show 3 * nwV how v p w k + wx how v p w k = _; unfold wx; repeat (first | rw [if_pos (by omega)] | rw [if_neg (by omega)])) (by omega)) ?_
                refine V.istore (pc := 139) (i := 5) dX8_numberWith_139 (by decide) (ls' := [(5, vI ((nwV how v p w (k + 1) : Nat) : Int)), (7, vI ((w : Nat) : Int)), (0, vR 77), (1, vI ((how : Nat) : Int)), (2, vI ((p : Nat) : Int)), (3, vI ((w : Nat) : Int)), (4, vI ((mn : Nat) : Int)), (6, vI ((k : Nat) : Int))]) rfl ?_
                refine V.iinc (pc := 141) (r := ((k + 1 : Nat) : Int)) 7 dX8_numberWith_141 rfl (w32_of (by omega) (by omega) (by omega)) (by decide) (ls' := [(6, vI ((k + 1 : Nat) : Int)), (5, vI ((nwV how v p w (k + 1) : Nat) : Int)), (7, vI ((w : Nat) : Int)), (0, vR 77), (1, vI ((how : Nat) : Int)), (2, vI ((p : Nat) : Int)), (3, vI ((w : Nat) : Int)), (4, vI ((mn : Nat) : Int))]) rfl ?_
                refine V.goto (pc := 144) 40 dX8_numberWith_144 (by decide) ?_
                refine V.locs [3, 4, 5, 6, 7, 1, 0] (ls' := [(0, vR 77), (1, vI ((how : Nat) : Int)), (2, vI ((p : Nat) : Int)), (3, vI ((w : Nat) : Int)), (4, vI ((mn : Nat) : Int)), (5, vI ((nwV how v p w (k + 1) : Nat) : Int)), (6, vI ((k + 1 : Nat) : Int))]) rfl ?_
                exact ih40 (k + 1) (by omega) (by omega)
          · skip
            refine V.aload_n (pc := 52) 0 dX8_numberWith_52 rfl ?_
            refine V.gr (pc := 53) 8 0 78 flX8_7 dX8_numberWith_53 (kS_77) (by decide) (by decide) rfl (kR_77_0) ?_
            refine V.iload (pc := 56) 6 dX8_numberWith_56 rfl ?_
            refine V.iload_n (pc := 58) 2 dX8_numberWith_58 rfl ?_
            refine V.icmp_ge (pc := 59) 67 dX8_numberWith_59 (by decide) (fun h59 => ?_) (fun h59 => ?_)
            · skip
              refine V.iload (pc := 67) 6 dX8_numberWith_67 rfl ?_
              refine V.iconst (pc := 69) (z := 1) dX8_numberWith_69 rfl ⟨by decide, by decide⟩ ?_
              refine V.iadd (pc := 70) ((((k + 1) : Nat) : Int)) dX8_numberWith_70 (addN (a := k) (b := 1) (by omega)) ?_
              refine V.ia (pc := 71) (len := 8) (k + 1) ((wd v ((k + 1)) : Nat) : Int) dX8_numberWith_71 (kS_78) (rfl) (by omega) (hwd _ (by omega)) ?_
              have hwx := hwl ((k + 1))
              refine V.goto (pc := 72) 130 dX8_numberWith_72 (by decide) ?_
              refine V.istore (pc := 130) (i := 7) dX8_numberWith_130 (by decide) (ls' := [(7, vI ((wd v ((k + 1)) : Nat) : Int)), (0, vR 77), (1, vI ((how : Nat) : Int)), (2, vI ((p : Nat) : Int)), (3, vI ((w : Nat) : Int)), (4, vI ((mn : Nat) : Int)), (5, vI ((nwV how v p w k : Nat) : Int)), (6, vI ((k : Nat) : Int))]) rfl ?_
              refine V.iconst (pc := 132) (z := 3) dX8_numberWith_132 rfl ⟨by decide, by decide⟩ ?_
              refine V.iload (pc := 133) 6 dX8_numberWith_133 rfl ?_
              refine V.imul (pc := 135) (((3 * (nwV how v p w k) : Nat) : Int)) dX8_numberWith_135 (mulN (a := 3) (b := nwV how v p w k) (by omega)) ?_
              refine V.iload (pc := 136) 0 dX8_numberWith_136 rfl ?_
              refine V.iadd (pc := 138) (((nwV how v p w (k + 1) : Nat) : Int)) dX8_numberWith_138 (nwE (x := wd v ((k + 1))) (by show 3 * nwV how v p w k + wx how v p w k = _; unfold wx; repeat (first | rw [if_pos (by omega)] | rw [if_neg (by omega)])) (by omega)) ?_
              refine V.istore (pc := 139) (i := 5) dX8_numberWith_139 (by decide) (ls' := [(5, vI ((nwV how v p w (k + 1) : Nat) : Int)), (7, vI ((wd v ((k + 1)) : Nat) : Int)), (0, vR 77), (1, vI ((how : Nat) : Int)), (2, vI ((p : Nat) : Int)), (3, vI ((w : Nat) : Int)), (4, vI ((mn : Nat) : Int)), (6, vI ((k : Nat) : Int))]) rfl ?_
              refine V.iinc (pc := 141) (r := ((k + 1 : Nat) : Int)) 7 dX8_numberWith_141 rfl (w32_of (by omega) (by omega) (by omega)) (by decide) (ls' := [(6, vI ((k + 1 : Nat) : Int)), (5, vI ((nwV how v p w (k + 1) : Nat) : Int)), (7, vI ((wd v ((k + 1)) : Nat) : Int)), (0, vR 77), (1, vI ((how : Nat) : Int)), (2, vI ((p : Nat) : Int)), (3, vI ((w : Nat) : Int)), (4, vI ((mn : Nat) : Int))]) rfl ?_
              refine V.goto (pc := 144) 40 dX8_numberWith_144 (by decide) ?_
              refine V.locs [3, 4, 5, 6, 7, 1, 0] (ls' := [(0, vR 77), (1, vI ((how : Nat) : Int)), (2, vI ((p : Nat) : Int)), (3, vI ((w : Nat) : Int)), (4, vI ((mn : Nat) : Int)), (5, vI ((nwV how v p w (k + 1) : Nat) : Int)), (6, vI ((k + 1 : Nat) : Int))]) rfl ?_
              exact ih40 (k + 1) (by omega) (by omega)
            · skip
              refine V.iload (pc := 62) 6 dX8_numberWith_62 rfl ?_
              refine V.goto (pc := 64) 71 dX8_numberWith_64 (by decide) ?_
              refine V.ia (pc := 71) (len := 8) k ((wd v (k) : Nat) : Int) dX8_numberWith_71 (kS_78) (rfl) (by omega) (hwd _ (by omega)) ?_
              have hwx := hwl (k)
              refine V.goto (pc := 72) 130 dX8_numberWith_72 (by decide) ?_
              refine V.istore (pc := 130) (i := 7) dX8_numberWith_130 (by decide) (ls' := [(7, vI ((wd v (k) : Nat) : Int)), (0, vR 77), (1, vI ((how : Nat) : Int)), (2, vI ((p : Nat) : Int)), (3, vI ((w : Nat) : Int)), (4, vI ((mn : Nat) : Int)), (5, vI ((nwV how v p w k : Nat) : Int)), (6, vI ((k : Nat) : Int))]) rfl ?_
              refine V.iconst (pc := 132) (z := 3) dX8_numberWith_132 rfl ⟨by decide, by decide⟩ ?_
              refine V.iload (pc := 133) 6 dX8_numberWith_133 rfl ?_
              refine V.imul (pc := 135) (((3 * (nwV how v p w k) : Nat) : Int)) dX8_numberWith_135 (mulN (a := 3) (b := nwV how v p w k) (by omega)) ?_
              refine V.iload (pc := 136) 0 dX8_numberWith_136 rfl ?_
              refine V.iadd (pc := 138) (((nwV how v p w (k + 1) : Nat) : Int)) dX8_numberWith_138 (nwE (x := wd v (k)) (by show 3 * nwV how v p w k + wx how v p w k = _; unfold wx; repeat (first | rw [if_pos (by omega)] | rw [if_neg (by omega)])) (by omega)) ?_
              refine V.istore (pc := 139) (i := 5) dX8_numberWith_139 (by decide) (ls' := [(5, vI ((nwV how v p w (k + 1) : Nat) : Int)), (7, vI ((wd v (k) : Nat) : Int)), (0, vR 77), (1, vI ((how : Nat) : Int)), (2, vI ((p : Nat) : Int)), (3, vI ((w : Nat) : Int)), (4, vI ((mn : Nat) : Int)), (6, vI ((k : Nat) : Int))]) rfl ?_
              refine V.iinc (pc := 141) (r := ((k + 1 : Nat) : Int)) 7 dX8_numberWith_141 rfl (w32_of (by omega) (by omega) (by omega)) (by decide) (ls' := [(6, vI ((k + 1 : Nat) : Int)), (5, vI ((nwV how v p w (k + 1) : Nat) : Int)), (7, vI ((wd v (k) : Nat) : Int)), (0, vR 77), (1, vI ((how : Nat) : Int)), (2, vI ((p : Nat) : Int)), (3, vI ((w : Nat) : Int)), (4, vI ((mn : Nat) : Int))]) rfl ?_
              refine V.goto (pc := 144) 40 dX8_numberWith_144 (by decide) ?_
              refine V.locs [3, 4, 5, 6, 7, 1, 0] (ls' := [(0, vR 77), (1, vI ((how : Nat) : Int)), (2, vI ((p : Nat) : Int)), (3, vI ((w : Nat) : Int)), (4, vI ((mn : Nat) : Int)), (5, vI ((nwV how v p w (k + 1) : Nat) : Int)), (6, vI ((k + 1 : Nat) : Int))]) rfl ?_
              exact ih40 (k + 1) (by omega) (by omega)
    refine V.locs [3, 4, 5, 6, 2, 1, 0] (ls' := [(0, vR 77), (1, vI ((how : Nat) : Int)), (2, vI ((p : Nat) : Int)), (3, vI ((w : Nat) : Int)), (4, vI ((mn : Nat) : Int)), (5, vI 0), (6, vI 0)]) rfl ?_
    exact lp40 _ 0 (by omega) (Nat.lt_succ_self _)
  refine V.iload_n (pc := 0) 1 dX8_numberWith_0 rfl ?_
  refine V.iconst (pc := 1) (z := 1) dX8_numberWith_1 rfl ⟨by decide, by decide⟩ ?_
  refine V.icmp_ne (pc := 2) 14 dX8_numberWith_2 (by decide) (fun h2 => ?_) (fun h2 => ?_)
  · skip
    refine V.iload_n (pc := 14) 1 dX8_numberWith_14 rfl ?_
    refine V.iconst (pc := 15) (z := 3) dX8_numberWith_15 rfl ⟨by decide, by decide⟩ ?_
    refine V.icmp_ne (pc := 16) 28 dX8_numberWith_16 (by decide) (fun h16 => ?_) (fun h16 => ?_)
    · skip
      refine V.aload_n (pc := 28) 0 dX8_numberWith_28 rfl ?_
      refine V.gi (pc := 29) 8 1 ((L3 v : Nat) : Int) flX8_83 dX8_numberWith_29 (kS_77) (by decide) (by decide) rfl (hw1) ?_
      exact ct32 (L3 v) (by unfold nwM; split; { omega }; { split <;> omega })
    · skip
      refine V.aload_n (pc := 19) 0 dX8_numberWith_19 rfl ?_
      refine V.gi (pc := 20) 8 1 ((L3 v : Nat) : Int) flX8_83 dX8_numberWith_20 (kS_77) (by decide) (by decide) rfl (hw1) ?_
      refine V.iconst (pc := 23) (z := 1) dX8_numberWith_23 rfl ⟨by decide, by decide⟩ ?_
      refine V.iadd (pc := 24) ((((L3 v + 1) : Nat) : Int)) dX8_numberWith_24 (addN (a := L3 v) (b := 1) (by omega)) ?_
      refine V.goto (pc := 25) 32 dX8_numberWith_25 (by decide) ?_
      exact ct32 (L3 v + 1) (by unfold nwM; split; { omega }; { split <;> omega })
  · skip
    refine V.aload_n (pc := 5) 0 dX8_numberWith_5 rfl ?_
    refine V.gi (pc := 6) 8 1 ((L3 v : Nat) : Int) flX8_83 dX8_numberWith_6 (kS_77) (by decide) (by decide) rfl (hw1) ?_
    refine V.iconst (pc := 9) (z := 1) dX8_numberWith_9 rfl ⟨by decide, by decide⟩ ?_
    refine V.isub (pc := 10) ((((L3 v - 1) : Nat) : Int)) dX8_numberWith_10 (subN (a := L3 v) (b := 1) (by omega) (by omega)) ?_
    refine V.goto (pc := 11) 32 dX8_numberWith_11 (by decide) ?_
    exact ct32 (L3 v - 1) (by unfold nwM; split; { omega }; { split <;> omega })

set_option maxRecDepth 100000 in
theorem c_X8_addSlip (hi hl : HI) (v x : Nat) (l : List Nat) (hl3 : hi 77 3 = (l.length : Nat)) (hg : ∀ i, i < l.length → hi 79 i = ((l.getD i 0 : Nat) : Int)) (hl40 : l.length < 40) (Q : QT) (hq : ∀ f g : Nat → Int, (∀ j, j ≠ 3 → f j = hi 77 j) → f 3 = ((addU v l x).length : Nat) → (∀ i, i < (addU v l x).length → g i = (((addU v l x).getD i 0 : Nat) : Int)) → Q none KW (upR (upR hi 77 f) 79 g) hl) : Con eX8_addSlip [vR 77, vI (v : Nat), vI (x : Nat)] KW hi hl Q := by
  refine Con.ofV (by decide +kernel) (Nat.le_of_ble_eq_true rfl) ?_
  show V eX8_addSlip none KW 0 [(0, vR 77), (1, vI ((v : Nat) : Int)), (2, vI ((x : Nat) : Int))] [] hi hl 0 0 Q
  refine V.hieq (hi' := (upR (upR hi 77 (hi 77)) 79 (hi 79))) (by rw [upR_id, upR_id]) ?_
  refine V.iload_n (pc := 0) 2 dX8_addSlip_0 rfl ?_
  refine V.iload_n (pc := 1) 1 dX8_addSlip_1 rfl ?_
  refine V.icmp_eq (pc := 2) 9 dX8_addSlip_2 (by decide) (fun h2 => ?_) (fun h2 => ?_)
  · skip
    refine V.iconst (pc := 9) (z := 0) dX8_addSlip_9 rfl ⟨by decide, by decide⟩ ?_
    refine V.istore_n (pc := 10) (i := 3) dX8_addSlip_10 rfl (by decide) (ls' := [(3, vI 0), (0, vR 77), (1, vI ((v : Nat) : Int)), (2, vI ((x : Nat) : Int))]) rfl ?_
    refine V.iconst (pc := 11) (z := 0) dX8_addSlip_11 rfl ⟨by decide, by decide⟩ ?_
    refine V.istore (pc := 12) (i := 4) dX8_addSlip_12 (by decide) (ls' := [(4, vI 0), (3, vI 0), (0, vR 77), (1, vI ((v : Nat) : Int)), (2, vI ((x : Nat) : Int))]) rfl ?_
    have lp14 : ∀ (fu14 : Nat) (k : Nat) (z : Int), (k ≤ l.length) → ((z = 1 ∧ x ≠ v ∧ ∀ i, i < k → l.getD i 0 ≠ x) ∨ (z = 0 ∧ (x = v ∨ ∃ i, i < k ∧ l.getD i 0 = x))) → l.length - k < fu14 → V eX8_addSlip none KW 14 [(0, vR 77), (1, vI ((v : Nat) : Int)), (2, vI ((x : Nat) : Int)), (3, vI z), (4, vI ((k : Nat) : Int))] [] (upR (upR hi 77 (hi 77)) 79 (hi 79)) hl 0 0 Q := by
      intro fu14
      induction fu14 with
      | zero => intro k z hk hz hm14; exact absurd hm14 (Nat.not_lt_zero _)
      | succ fu14 ih14 =>
        intro k z hk hz hm14
        refine V.iload (pc := 14) 4 dX8_addSlip_14 rfl ?_
        refine V.aload_n (pc := 16) 0 dX8_addSlip_16 rfl ?_
        refine V.gi (pc := 17) 8 3 ((l.length : Nat) : Int) flX8_90 dX8_addSlip_17 (kS_77) (by decide) (by decide) rfl (hl3) ?_
        refine V.icmp_ge (pc := 20) 50 dX8_addSlip_20 (by decide) (fun h20 => ?_) (fun h20 => ?_)
        · skip
          refine V.iload_n (pc := 50) 3 dX8_addSlip_50 rfl ?_
          refine V.if_eq (pc := 51) 74 dX8_addSlip_51 (by decide) (fun h51 => ?_) (fun h51 => ?_)
          · have hin : x = v ∨ x ∈ l := by rcases hz with q | q; { omega }; { rcases q.2 with q2 | ⟨i, q2, q3⟩; { exact Or.inl q2 }; { exact Or.inr (mem_of_at (show i < l.length by omega) q3) } }
            refine V.vret (pc := 74) dX8_addSlip_74 rfl ?_
            exact hq _ _ (fun _ _ => rfl) (by rw [addU_same hin]; exact hl3) (by rw [addU_same hin]; exact hg)
          · have hnin : ¬ (x = v ∨ x ∈ l) := by rcases hz with q | q; { exact fun h => h.elim q.2.1 (not_mem_of (fun i hi => q.2.2 i (by omega))) }; { exact absurd q.1 h51 }
            refine V.aload_n (pc := 54) 0 dX8_addSlip_54 rfl ?_
            refine V.gr (pc := 55) 8 2 79 flX8_13 dX8_addSlip_55 (kS_77) (by decide) (by decide) rfl (kR_77_2) ?_
            refine V.aload_n (pc := 58) 0 dX8_addSlip_58 rfl ?_
            refine V.gi (pc := 59) 8 3 ((l.length : Nat) : Int) flX8_90 dX8_addSlip_59 (kS_77) (by decide) (by decide) rfl (hl3) ?_
            refine V.iload_n (pc := 62) 2 dX8_addSlip_62 rfl ?_
            refine V.is (pc := 63) (len := 40) (hi' := (upR (upR hi 77 (hi 77)) 79 (updF (hi 79) (l.length) ((x : Nat) : Int)))) (l.length) dX8_addSlip_63 (kS_79) (rfl) (by omega) u1 ?_
            refine V.aload_n (pc := 64) 0 dX8_addSlip_64 rfl ?_
            refine V.dup (pc := 65) dX8_addSlip_65 rfl ?_
            refine V.gi (pc := 66) 8 3 ((l.length : Nat) : Int) flX8_90 dX8_addSlip_66 (kS_77) (by decide) (by decide) rfl (hl3) ?_
            refine V.iconst (pc := 69) (z := 1) dX8_addSlip_69 rfl ⟨by decide, by decide⟩ ?_
            refine V.iadd (pc := 70) ((((l.length + 1) : Nat) : Int)) dX8_addSlip_70 (addN (a := l.length) (b := 1) (by omega)) ?_
            refine V.pi (pc := 71) (hi' := (upR (upR hi 77 (updF (hi 77) 3 (((l.length + 1) : Nat) : Int))) 79 (updF (hi 79) (l.length) ((x : Nat) : Int)))) 8 3 flX8_90 dX8_addSlip_71 (kS_77) (by decide) (by decide) rfl rfl (us (by decide) u1) ?_
            refine V.vret (pc := 74) dX8_addSlip_74 rfl ?_
            have e : addU v l x = l ++ [x] := by unfold addU; rw [if_neg hnin]
            refine hq _ _ (fun j hj => updF_n hj) (by rw [e, updF_s, List.length_append, List.length_singleton]) (fun i hi => ?_)
            rw [e] at hi ⊢
            rw [List.length_append, List.length_singleton] at hi
            by_cases hil : i = l.length
            · subst hil; rw [updF_s]; simp [List.getD]
            · rw [updF_n (by omega), hg i (by omega)]; simp [List.getD, List.getElem?_append_left (show i < l.length by omega)]
        · skip
          refine V.iload_n (pc := 23) 3 dX8_addSlip_23 rfl ?_
          refine V.if_eq (pc := 24) 42 dX8_addSlip_24 (by decide) (fun h24 => ?_) (fun h24 => ?_)
          · skip
            refine V.iconst (pc := 42) (z := 0) dX8_addSlip_42 rfl ⟨by decide, by decide⟩ ?_
            refine V.istore_n (pc := 43) (i := 3) dX8_addSlip_43 rfl (by decide) (ls' := [(3, vI 0), (0, vR 77), (1, vI ((v : Nat) : Int)), (2, vI ((x : Nat) : Int)), (4, vI ((k : Nat) : Int))]) rfl ?_
            refine V.iinc (pc := 44) (r := ((k + 1 : Nat) : Int)) 4 dX8_addSlip_44 rfl (w32_of (by omega) (by omega) (by omega)) (by decide) (ls' := [(4, vI ((k + 1 : Nat) : Int)), (3, vI 0), (0, vR 77), (1, vI ((v : Nat) : Int)), (2, vI ((x : Nat) : Int))]) rfl ?_
            refine V.goto (pc := 47) 14 dX8_addSlip_47 (by decide) ?_
            refine V.locs [2, 3, 4, 1, 0] (ls' := [(0, vR 77), (1, vI ((v : Nat) : Int)), (2, vI ((x : Nat) : Int)), (3, vI 0), (4, vI ((k + 1 : Nat) : Int))]) rfl ?_
            exact ih14 (k + 1) 0 (by omega) (by rcases hz with q | q; { omega }; { right; refine ⟨rfl, ?_⟩; rcases q.2 with q2 | ⟨i, q2, q3⟩; { exact Or.inl q2 }; { exact Or.inr ⟨i, by omega, q3⟩ } }) (by omega)
          · skip
            refine V.aload_n (pc := 27) 0 dX8_addSlip_27 rfl ?_
            refine V.gr (pc := 28) 8 2 79 flX8_13 dX8_addSlip_28 (kS_77) (by decide) (by decide) rfl (kR_77_2) ?_
            refine V.iload (pc := 31) 4 dX8_addSlip_31 rfl ?_
            refine V.ia (pc := 33) (len := 40) k ((l.getD k 0 : Nat) : Int) dX8_addSlip_33 (kS_79) (rfl) (by omega) (hg k (by omega)) ?_
            refine V.iload_n (pc := 34) 2 dX8_addSlip_34 rfl ?_
            refine V.icmp_eq (pc := 35) 42 dX8_addSlip_35 (by decide) (fun h35 => ?_) (fun h35 => ?_)
            · skip
              refine V.iconst (pc := 42) (z := 0) dX8_addSlip_42 rfl ⟨by decide, by decide⟩ ?_
              refine V.istore_n (pc := 43) (i := 3) dX8_addSlip_43 rfl (by decide) (ls' := [(3, vI 0), (0, vR 77), (1, vI ((v : Nat) : Int)), (2, vI ((x : Nat) : Int)), (4, vI ((k : Nat) : Int))]) rfl ?_
              refine V.iinc (pc := 44) (r := ((k + 1 : Nat) : Int)) 4 dX8_addSlip_44 rfl (w32_of (by omega) (by omega) (by omega)) (by decide) (ls' := [(4, vI ((k + 1 : Nat) : Int)), (3, vI 0), (0, vR 77), (1, vI ((v : Nat) : Int)), (2, vI ((x : Nat) : Int))]) rfl ?_
              refine V.goto (pc := 47) 14 dX8_addSlip_47 (by decide) ?_
              refine V.locs [2, 3, 4, 1, 0] (ls' := [(0, vR 77), (1, vI ((v : Nat) : Int)), (2, vI ((x : Nat) : Int)), (3, vI 0), (4, vI ((k + 1 : Nat) : Int))]) rfl ?_
              exact ih14 (k + 1) 0 (by omega) (Or.inr ⟨rfl, Or.inr ⟨k, by omega, by omega⟩⟩) (by omega)
            · skip
              refine V.iconst (pc := 38) (z := 1) dX8_addSlip_38 rfl ⟨by decide, by decide⟩ ?_
              refine V.goto (pc := 39) 43 dX8_addSlip_39 (by decide) ?_
              refine V.istore_n (pc := 43) (i := 3) dX8_addSlip_43 rfl (by decide) (ls' := [(3, vI 1), (0, vR 77), (1, vI ((v : Nat) : Int)), (2, vI ((x : Nat) : Int)), (4, vI ((k : Nat) : Int))]) rfl ?_
              refine V.iinc (pc := 44) (r := ((k + 1 : Nat) : Int)) 4 dX8_addSlip_44 rfl (w32_of (by omega) (by omega) (by omega)) (by decide) (ls' := [(4, vI ((k + 1 : Nat) : Int)), (3, vI 1), (0, vR 77), (1, vI ((v : Nat) : Int)), (2, vI ((x : Nat) : Int))]) rfl ?_
              refine V.goto (pc := 47) 14 dX8_addSlip_47 (by decide) ?_
              refine V.locs [2, 3, 4, 1, 0] (ls' := [(0, vR 77), (1, vI ((v : Nat) : Int)), (2, vI ((x : Nat) : Int)), (3, vI 1), (4, vI ((k + 1 : Nat) : Int))]) rfl ?_
              exact ih14 (k + 1) 1 (by omega) (by rcases hz with q | q; { left; refine ⟨rfl, q.2.1, fun i hi => ?_⟩; by_cases e : i = k; { rw [e]; omega }; { exact q.2.2 i (by omega) } }; { exact absurd q.1 h24 }) (by omega)
    refine V.locs [2, 3, 4, 1, 0] (ls' := [(0, vR 77), (1, vI ((v : Nat) : Int)), (2, vI ((x : Nat) : Int)), (3, vI 0), (4, vI 0)]) rfl ?_
    exact lp14 _ 0 0 (by omega) (Or.inr ⟨rfl, Or.inl (by omega)⟩) (Nat.lt_succ_self _)
  · skip
    refine V.iconst (pc := 5) (z := 1) dX8_addSlip_5 rfl ⟨by decide, by decide⟩ ?_
    refine V.goto (pc := 6) 10 dX8_addSlip_6 (by decide) ?_
    refine V.istore_n (pc := 10) (i := 3) dX8_addSlip_10 rfl (by decide) (ls' := [(3, vI 1), (0, vR 77), (1, vI ((v : Nat) : Int)), (2, vI ((x : Nat) : Int))]) rfl ?_
    refine V.iconst (pc := 11) (z := 0) dX8_addSlip_11 rfl ⟨by decide, by decide⟩ ?_
    refine V.istore (pc := 12) (i := 4) dX8_addSlip_12 (by decide) (ls' := [(4, vI 0), (3, vI 1), (0, vR 77), (1, vI ((v : Nat) : Int)), (2, vI ((x : Nat) : Int))]) rfl ?_
    have lp14 : ∀ (fu14 : Nat) (k : Nat) (z : Int), (k ≤ l.length) → ((z = 1 ∧ x ≠ v ∧ ∀ i, i < k → l.getD i 0 ≠ x) ∨ (z = 0 ∧ (x = v ∨ ∃ i, i < k ∧ l.getD i 0 = x))) → l.length - k < fu14 → V eX8_addSlip none KW 14 [(0, vR 77), (1, vI ((v : Nat) : Int)), (2, vI ((x : Nat) : Int)), (3, vI z), (4, vI ((k : Nat) : Int))] [] (upR (upR hi 77 (hi 77)) 79 (hi 79)) hl 0 0 Q := by
      intro fu14
      induction fu14 with
      | zero => intro k z hk hz hm14; exact absurd hm14 (Nat.not_lt_zero _)
      | succ fu14 ih14 =>
        intro k z hk hz hm14
        refine V.iload (pc := 14) 4 dX8_addSlip_14 rfl ?_
        refine V.aload_n (pc := 16) 0 dX8_addSlip_16 rfl ?_
        refine V.gi (pc := 17) 8 3 ((l.length : Nat) : Int) flX8_90 dX8_addSlip_17 (kS_77) (by decide) (by decide) rfl (hl3) ?_
        refine V.icmp_ge (pc := 20) 50 dX8_addSlip_20 (by decide) (fun h20 => ?_) (fun h20 => ?_)
        · skip
          refine V.iload_n (pc := 50) 3 dX8_addSlip_50 rfl ?_
          refine V.if_eq (pc := 51) 74 dX8_addSlip_51 (by decide) (fun h51 => ?_) (fun h51 => ?_)
          · have hin : x = v ∨ x ∈ l := by rcases hz with q | q; { omega }; { rcases q.2 with q2 | ⟨i, q2, q3⟩; { exact Or.inl q2 }; { exact Or.inr (mem_of_at (show i < l.length by omega) q3) } }
            refine V.vret (pc := 74) dX8_addSlip_74 rfl ?_
            exact hq _ _ (fun _ _ => rfl) (by rw [addU_same hin]; exact hl3) (by rw [addU_same hin]; exact hg)
          · have hnin : ¬ (x = v ∨ x ∈ l) := by rcases hz with q | q; { exact fun h => h.elim q.2.1 (not_mem_of (fun i hi => q.2.2 i (by omega))) }; { exact absurd q.1 h51 }
            refine V.aload_n (pc := 54) 0 dX8_addSlip_54 rfl ?_
            refine V.gr (pc := 55) 8 2 79 flX8_13 dX8_addSlip_55 (kS_77) (by decide) (by decide) rfl (kR_77_2) ?_
            refine V.aload_n (pc := 58) 0 dX8_addSlip_58 rfl ?_
            refine V.gi (pc := 59) 8 3 ((l.length : Nat) : Int) flX8_90 dX8_addSlip_59 (kS_77) (by decide) (by decide) rfl (hl3) ?_
            refine V.iload_n (pc := 62) 2 dX8_addSlip_62 rfl ?_
            refine V.is (pc := 63) (len := 40) (hi' := (upR (upR hi 77 (hi 77)) 79 (updF (hi 79) (l.length) ((x : Nat) : Int)))) (l.length) dX8_addSlip_63 (kS_79) (rfl) (by omega) u1 ?_
            refine V.aload_n (pc := 64) 0 dX8_addSlip_64 rfl ?_
            refine V.dup (pc := 65) dX8_addSlip_65 rfl ?_
            refine V.gi (pc := 66) 8 3 ((l.length : Nat) : Int) flX8_90 dX8_addSlip_66 (kS_77) (by decide) (by decide) rfl (hl3) ?_
            refine V.iconst (pc := 69) (z := 1) dX8_addSlip_69 rfl ⟨by decide, by decide⟩ ?_
            refine V.iadd (pc := 70) ((((l.length + 1) : Nat) : Int)) dX8_addSlip_70 (addN (a := l.length) (b := 1) (by omega)) ?_
            refine V.pi (pc := 71) (hi' := (upR (upR hi 77 (updF (hi 77) 3 (((l.length + 1) : Nat) : Int))) 79 (updF (hi 79) (l.length) ((x : Nat) : Int)))) 8 3 flX8_90 dX8_addSlip_71 (kS_77) (by decide) (by decide) rfl rfl (us (by decide) u1) ?_
            refine V.vret (pc := 74) dX8_addSlip_74 rfl ?_
            have e : addU v l x = l ++ [x] := by unfold addU; rw [if_neg hnin]
            refine hq _ _ (fun j hj => updF_n hj) (by rw [e, updF_s, List.length_append, List.length_singleton]) (fun i hi => ?_)
            rw [e] at hi ⊢
            rw [List.length_append, List.length_singleton] at hi
            by_cases hil : i = l.length
            · subst hil; rw [updF_s]; simp [List.getD]
            · rw [updF_n (by omega), hg i (by omega)]; simp [List.getD, List.getElem?_append_left (show i < l.length by omega)]
        · skip
          refine V.iload_n (pc := 23) 3 dX8_addSlip_23 rfl ?_
          refine V.if_eq (pc := 24) 42 dX8_addSlip_24 (by decide) (fun h24 => ?_) (fun h24 => ?_)
          · skip
            refine V.iconst (pc := 42) (z := 0) dX8_addSlip_42 rfl ⟨by decide, by decide⟩ ?_
            refine V.istore_n (pc := 43) (i := 3) dX8_addSlip_43 rfl (by decide) (ls' := [(3, vI 0), (0, vR 77), (1, vI ((v : Nat) : Int)), (2, vI ((x : Nat) : Int)), (4, vI ((k : Nat) : Int))]) rfl ?_
            refine V.iinc (pc := 44) (r := ((k + 1 : Nat) : Int)) 4 dX8_addSlip_44 rfl (w32_of (by omega) (by omega) (by omega)) (by decide) (ls' := [(4, vI ((k + 1 : Nat) : Int)), (3, vI 0), (0, vR 77), (1, vI ((v : Nat) : Int)), (2, vI ((x : Nat) : Int))]) rfl ?_
            refine V.goto (pc := 47) 14 dX8_addSlip_47 (by decide) ?_
            refine V.locs [2, 3, 4, 1, 0] (ls' := [(0, vR 77), (1, vI ((v : Nat) : Int)), (2, vI ((x : Nat) : Int)), (3, vI 0), (4, vI ((k + 1 : Nat) : Int))]) rfl ?_
            exact ih14 (k + 1) 0 (by omega) (by rcases hz with q | q; { omega }; { right; refine ⟨rfl, ?_⟩; rcases q.2 with q2 | ⟨i, q2, q3⟩; { exact Or.inl q2 }; { exact Or.inr ⟨i, by omega, q3⟩ } }) (by omega)
          · skip
            refine V.aload_n (pc := 27) 0 dX8_addSlip_27 rfl ?_
            refine V.gr (pc := 28) 8 2 79 flX8_13 dX8_addSlip_28 (kS_77) (by decide) (by decide) rfl (kR_77_2) ?_
            refine V.iload (pc := 31) 4 dX8_addSlip_31 rfl ?_
            refine V.ia (pc := 33) (len := 40) k ((l.getD k 0 : Nat) : Int) dX8_addSlip_33 (kS_79) (rfl) (by omega) (hg k (by omega)) ?_
            refine V.iload_n (pc := 34) 2 dX8_addSlip_34 rfl ?_
            refine V.icmp_eq (pc := 35) 42 dX8_addSlip_35 (by decide) (fun h35 => ?_) (fun h35 => ?_)
            · skip
              refine V.iconst (pc := 42) (z := 0) dX8_addSlip_42 rfl ⟨by decide, by decide⟩ ?_
              refine V.istore_n (pc := 43) (i := 3) dX8_addSlip_43 rfl (by decide) (ls' := [(3, vI 0), (0, vR 77), (1, vI ((v : Nat) : Int)), (2, vI ((x : Nat) : Int)), (4, vI ((k : Nat) : Int))]) rfl ?_
              refine V.iinc (pc := 44) (r := ((k + 1 : Nat) : Int)) 4 dX8_addSlip_44 rfl (w32_of (by omega) (by omega) (by omega)) (by decide) (ls' := [(4, vI ((k + 1 : Nat) : Int)), (3, vI 0), (0, vR 77), (1, vI ((v : Nat) : Int)), (2, vI ((x : Nat) : Int))]) rfl ?_
              refine V.goto (pc := 47) 14 dX8_addSlip_47 (by decide) ?_
              refine V.locs [2, 3, 4, 1, 0] (ls' := [(0, vR 77), (1, vI ((v : Nat) : Int)), (2, vI ((x : Nat) : Int)), (3, vI 0), (4, vI ((k + 1 : Nat) : Int))]) rfl ?_
              exact ih14 (k + 1) 0 (by omega) (Or.inr ⟨rfl, Or.inr ⟨k, by omega, by omega⟩⟩) (by omega)
            · skip
              refine V.iconst (pc := 38) (z := 1) dX8_addSlip_38 rfl ⟨by decide, by decide⟩ ?_
              refine V.goto (pc := 39) 43 dX8_addSlip_39 (by decide) ?_
              refine V.istore_n (pc := 43) (i := 3) dX8_addSlip_43 rfl (by decide) (ls' := [(3, vI 1), (0, vR 77), (1, vI ((v : Nat) : Int)), (2, vI ((x : Nat) : Int)), (4, vI ((k : Nat) : Int))]) rfl ?_
              refine V.iinc (pc := 44) (r := ((k + 1 : Nat) : Int)) 4 dX8_addSlip_44 rfl (w32_of (by omega) (by omega) (by omega)) (by decide) (ls' := [(4, vI ((k + 1 : Nat) : Int)), (3, vI 1), (0, vR 77), (1, vI ((v : Nat) : Int)), (2, vI ((x : Nat) : Int))]) rfl ?_
              refine V.goto (pc := 47) 14 dX8_addSlip_47 (by decide) ?_
              refine V.locs [2, 3, 4, 1, 0] (ls' := [(0, vR 77), (1, vI ((v : Nat) : Int)), (2, vI ((x : Nat) : Int)), (3, vI 1), (4, vI ((k + 1 : Nat) : Int))]) rfl ?_
              exact ih14 (k + 1) 1 (by omega) (by rcases hz with q | q; { left; refine ⟨rfl, q.2.1, fun i hi => ?_⟩; by_cases e : i = k; { rw [e]; omega }; { exact q.2.2 i (by omega) } }; { exact absurd q.1 h24 }) (by omega)
    refine V.locs [2, 3, 4, 1, 0] (ls' := [(0, vR 77), (1, vI ((v : Nat) : Int)), (2, vI ((x : Nat) : Int)), (3, vI 1), (4, vI 0)]) rfl ?_
    exact lp14 _ 0 1 (by omega) (Or.inl ⟨rfl, by omega, fun i hi => absurd hi (Nat.not_lt_zero i)⟩) (Nat.lt_succ_self _)

set_option maxRecDepth 100000 in
theorem c_X8_findSlips (hi hl : HI) (s v : Nat) (hs : s ≤ 4) (hv : v < 364) (Q : QT) (hq : ∀ f g g78 : Nat → Int, (∀ j, j ≠ 1 → j ≠ 3 → f j = hi 77 j) → f 3 = (slN s v : Nat) → (∀ i, i < slN s v → g i = (((slL s v).getD i 0 : Nat) : Int)) → Q none KW (upR (upR (upR hi 77 f) 78 g78) 79 g) hl) : Con eX8_findSlips [vR 77, vI (s : Nat), vI (v : Nat)] KW hi hl Q := by
  refine Con.ofV (by decide +kernel) (Nat.le_of_ble_eq_true rfl) ?_
  show V eX8_findSlips none KW 0 [(0, vR 77), (1, vI ((s : Nat) : Int)), (2, vI ((v : Nat) : Int))] [] hi hl 0 0 Q
  refine V.hieq (hi' := (upR (upR (upR hi 77 (hi 77)) 78 (hi 78)) 79 (hi 79))) (by rw [upR_id, upR_id, upR_id]) ?_
  have hL := L3_le v
  refine V.aload_n (pc := 0) 0 dX8_findSlips_0 rfl ?_
  refine V.iconst (pc := 1) (z := 0) dX8_findSlips_1 rfl ⟨by decide, by decide⟩ ?_
  refine V.pi (pc := 2) (hi' := (upR (upR (upR hi 77 (updF (hi 77) 3 0)) 78 (hi 78)) 79 (hi 79))) 8 3 flX8_90 dX8_findSlips_2 (kS_77) (by decide) (by decide) rfl rfl (us (by decide) (us (by decide) u1)) ?_
  refine V.iload_n (pc := 5) 1 dX8_findSlips_5 rfl ?_
  refine V.i2l (pc := 6) dX8_findSlips_6 ?_
  refine V.lconst (pc := 7) (z := 1) dX8_findSlips_7 (by decide +kernel) ⟨by decide, by decide⟩ ?_
  refine V.ldc2 (pc := 8) (z := 3) clX8_93 dX8_findSlips_8 ⟨by decide, by decide⟩ ?_
  refine V.callS (pc := 11) (e1 := eX8_in) 3 [vL ((s : Nat) : Int), vL 1, vL 3] [] mfX8_in slX8_in mlX8_72 dX8_findSlips_11 rfl rfl (Nat.le_of_ble_eq_true rfl) ⟨by decide, by decide, by decide, by decide⟩ ?_
  refine c_X8_in KW (upR (upR (upR hi 77 (updF (hi 77) 3 0)) 78 (hi 78)) 79 (hi 79)) hl ((s : Nat) : Int) 1 3 _ (fun hin => ?_) (fun hin => ?_)
  · skip
    refine V.qI (pc := 11) rfl rfl ?_
    refine V.if_ne (pc := 14) 18 dX8_findSlips_14 (by decide) (fun h14 => ?_) (fun hc => by exact absurd hc (by decide))
    refine V.aload_n (pc := 18) 0 dX8_findSlips_18 rfl ?_
    refine V.iload_n (pc := 19) 2 dX8_findSlips_19 rfl ?_
    refine V.callV (pc := 20) (e1 := eX8_lay) (o := 77) (c := 8) 1 [vI ((v : Nat) : Int)] [] mfX8_lay slX8_lay mlX8_86 dX8_findSlips_20 (kS_77) (by decide) rfl rfl rfl (Nat.le_of_ble_eq_true rfl) ⟨by decide, by decide, by decide, by decide⟩ ?_
    refine c_X8_lay (upR (upR (upR hi 77 (updF (hi 77) 3 0)) 78 (hi 78)) 79 (hi 79)) hl v (by omega) _ (fun gly hly => ?_)
    refine V.qV (pc := 20) rfl rfl ?_
    refine V.hieq (hi' := (upR (upR (upR hi 77 (updF (updF (hi 77) 3 0) 1 ((L3 v : Nat) : Int))) 78 gly) 79 (hi 79))) ((upR_c (rs (by decide) (rs (by decide) r1))).trans (rs (by decide) r1)) ?_
    have ct55 : ∀ (np : Nat), (np = spP s v) → V eX8_findSlips none KW 55 [(0, vR 77), (1, vI ((s : Nat) : Int)), (2, vI ((v : Nat) : Int))] [vI ((np : Nat) : Int)] (upR (upR (upR hi 77 (updF (updF (hi 77) 3 0) 1 ((L3 v : Nat) : Int))) 78 gly) 79 (hi 79)) hl 0 0 Q := by
      intro np hnp
      have hP5 : np ≤ 5 := by rw [hnp]; unfold spP; split; { split <;> omega }; { omega }
      have esl : slL s v = slP s v (spP s v) := by unfold slL; rw [if_pos (by omega)]
      have h11 : ∀ p w, p < spP s v → w ≤ spW s → (slW s v p (slP s v p) w).length ≤ 11 := fun p w hp hw => by have k1 := slW_len s v p (slP s v p) hw; have k2 := slP_len s v (show p + 1 ≤ spP s v by omega); have k3 : (slW s v p (slP s v p) (spW s)).length ≤ (slP s v (spP s v)).length := k2; have k4 := slN_l hs hv; unfold slN at k4; rw [esl] at k4; omega
      refine V.istore_n (pc := 55) (i := 3) dX8_findSlips_55 rfl (by decide) (ls' := [(3, vI ((np : Nat) : Int)), (0, vR 77), (1, vI ((s : Nat) : Int)), (2, vI ((v : Nat) : Int))]) rfl ?_
      refine V.iconst (pc := 56) (z := 0) dX8_findSlips_56 rfl ⟨by decide, by decide⟩ ?_
      refine V.istore (pc := 57) (i := 4) dX8_findSlips_57 (by decide) (ls' := [(4, vI 0), (3, vI ((np : Nat) : Int)), (0, vR 77), (1, vI ((s : Nat) : Int)), (2, vI ((v : Nat) : Int))]) rfl ?_
      have lp59 : ∀ (fu59 : Nat) (p : Nat) (f : Nat → Int) (g : Nat → Int), (p ≤ np) → (f 1 = (L3 v : Nat)) → (f 3 = (((slP s v p)).length : Nat)) → (∀ i, i < ((slP s v p)).length → g i = ((((slP s v p)).getD i 0 : Nat) : Int)) → (∀ j, j ≠ 1 → j ≠ 3 → f j = hi 77 j) → np - p < fu59 → V eX8_findSlips none KW 59 [(0, vR 77), (1, vI ((s : Nat) : Int)), (2, vI ((v : Nat) : Int)), (3, vI ((np : Nat) : Int)), (4, vI ((p : Nat) : Int))] [] (upR (upR (upR hi 77 f) 78 gly) 79 g) hl 0 0 Q := by
        intro fu59
        induction fu59 with
        | zero => intro p f g hp g1 g3 gs go hm59; exact absurd hm59 (Nat.not_lt_zero _)
        | succ fu59 ih59 =>
          intro p f g hp g1 g3 gs go hm59
          refine V.iload (pc := 59) 4 dX8_findSlips_59 rfl ?_
          refine V.iload_n (pc := 61) 3 dX8_findSlips_61 rfl ?_
          refine V.icmp_ge (pc := 62) 109 dX8_findSlips_62 (by decide) (fun h62 => ?_) (fun h62 => ?_)
          · skip
            refine V.vret (pc := 109) dX8_findSlips_109 rfl ?_
            have e : p = spP s v := by omega
            have esn : slN s v = (slP s v p).length := by unfold slN; rw [esl, e]
            exact hq _ _ _ go (by rw [esn]; exact g3) (by rw [esn, esl, ← e]; exact gs)
          · skip
            refine V.iconst (pc := 65) (z := 0) dX8_findSlips_65 rfl ⟨by decide, by decide⟩ ?_
            refine V.istore (pc := 66) (i := 5) dX8_findSlips_66 (by decide) (ls' := [(5, vI 0), (0, vR 77), (1, vI ((s : Nat) : Int)), (2, vI ((v : Nat) : Int)), (3, vI ((np : Nat) : Int)), (4, vI ((p : Nat) : Int))]) rfl ?_
            have lp68 : ∀ (fu68 : Nat) (w : Nat) (f2 : Nat → Int) (g2 : Nat → Int), (w ≤ spW s) → (f2 1 = (L3 v : Nat)) → (f2 3 = (((slW s v p (slP s v p) w)).length : Nat)) → (∀ i, i < ((slW s v p (slP s v p) w)).length → g2 i = ((((slW s v p (slP s v p) w)).getD i 0 : Nat) : Int)) → (∀ j, j ≠ 1 → j ≠ 3 → f2 j = hi 77 j) → spW s - w < fu68 → V eX8_findSlips none KW 68 [(0, vR 77), (1, vI ((s : Nat) : Int)), (2, vI ((v : Nat) : Int)), (3, vI ((np : Nat) : Int)), (4, vI ((p : Nat) : Int)), (5, vI ((w : Nat) : Int))] [] (upR (upR (upR hi 77 f2) 78 gly) 79 g2) hl 0 0 Q := by
              intro fu68
              induction fu68 with
              | zero => intro w f2 g2 hw b1 b3 bs bo hm68; exact absurd hm68 (Nat.not_lt_zero _)
              | succ fu68 ih68 =>
                intro w f2 g2 hw b1 b3 bs bo hm68
                have hsw : (s = 1 → spW s = 1) ∧ (s ≠ 1 → spW s = 3) := by unfold spW; split <;> omega
                have hl11 := h11 p w (by omega) hw
                refine V.iload (pc := 68) 5 dX8_findSlips_68 rfl ?_
                refine V.iload_n (pc := 70) 1 dX8_findSlips_70 rfl ?_
                refine V.iconst (pc := 71) (z := 1) dX8_findSlips_71 rfl ⟨by decide, by decide⟩ ?_
                refine V.icmp_ne (pc := 72) 79 dX8_findSlips_72 (by decide) (fun h72 => ?_) (fun h72 => ?_)
                · skip
                  refine V.iconst (pc := 79) (z := 3) dX8_findSlips_79 rfl ⟨by decide, by decide⟩ ?_
                  refine V.icmp_ge (pc := 80) 103 dX8_findSlips_80 (by decide) (fun h80 => ?_) (fun h80 => ?_)
                  · skip
                    refine V.iinc (pc := 103) (r := ((p + 1 : Nat) : Int)) 4 dX8_findSlips_103 rfl (w32_of (by omega) (by omega) (by omega)) (by decide) (ls' := [(4, vI ((p + 1 : Nat) : Int)), (0, vR 77), (1, vI ((s : Nat) : Int)), (2, vI ((v : Nat) : Int)), (3, vI ((np : Nat) : Int)), (5, vI ((w : Nat) : Int))]) rfl ?_
                    refine V.goto (pc := 106) 59 dX8_findSlips_106 (by decide) ?_
                    refine V.locs [1, 2, 3, 4, 0] (ls' := [(0, vR 77), (1, vI ((s : Nat) : Int)), (2, vI ((v : Nat) : Int)), (3, vI ((np : Nat) : Int)), (4, vI ((p + 1 : Nat) : Int))]) rfl ?_
                    have ew : w = spW s := by omega
                    exact ih59 (p + 1) f2 g2 (by omega) (b1) (by rw [show slP s v (p + 1) = slW s v p (slP s v p) (spW s) from rfl, ← ew]; exact b3) (by rw [show slP s v (p + 1) = slW s v p (slP s v p) (spW s) from rfl, ← ew]; exact bs) (bo) (by omega)
                  · skip
                    refine V.aload_n (pc := 83) 0 dX8_findSlips_83 rfl ?_
                    refine V.iload_n (pc := 84) 2 dX8_findSlips_84 rfl ?_
                    refine V.aload_n (pc := 85) 0 dX8_findSlips_85 rfl ?_
                    refine V.iload_n (pc := 86) 1 dX8_findSlips_86 rfl ?_
                    refine V.iload (pc := 87) 4 dX8_findSlips_87 rfl ?_
                    refine V.iload (pc := 89) 5 dX8_findSlips_89 rfl ?_
                    refine V.callV (pc := 91) (e1 := eX8_numberWith) (o := 77) (c := 8) 3 [vI ((s : Nat) : Int), vI ((p : Nat) : Int), vI ((w : Nat) : Int)] [vI ((v : Nat) : Int), vR 77] mfX8_numberWith slX8_numberWith mlX8_95 dX8_findSlips_91 (kS_77) (by decide) rfl rfl rfl (Nat.le_of_ble_eq_true rfl) ⟨by decide, by decide, by decide, by decide⟩ ?_
                    refine c_X8_numberWith (upR (upR (upR hi 77 f2) 78 gly) 79 g2) hl v hv b1 (fun i hi => hly i hi) s p w (by omega) (by omega) (by omega) (by omega) _ ?_
                    refine V.qI (pc := 91) rfl rfl ?_
                    refine V.callV (pc := 94) (e1 := eX8_addSlip) (o := 77) (c := 8) 2 [vI ((v : Nat) : Int), vI ((sp s v p w : Nat) : Int)] [] mfX8_addSlip slX8_addSlip mlX8_99 dX8_findSlips_94 (kS_77) (by decide) rfl rfl rfl (Nat.le_of_ble_eq_true rfl) ⟨by decide, by decide, by decide, by decide⟩ ?_
                    refine c_X8_addSlip (upR (upR (upR hi 77 f2) 78 gly) 79 g2) hl v (sp s v p w) (slW s v p (slP s v p) w) b3 bs (by omega) _ (fun fa ga ha1 ha2 ha3 => ?_)
                    refine V.qV (pc := 94) rfl rfl ?_
                    refine V.hieq (hi' := (upR (upR (upR hi 77 fa) 78 gly) 79 ga)) ((upR_c (rs (by decide) (rs (by decide) r1))).trans r1) ?_
                    refine V.iinc (pc := 97) (r := ((w + 1 : Nat) : Int)) 5 dX8_findSlips_97 rfl (w32_of (by omega) (by omega) (by omega)) (by decide) (ls' := [(5, vI ((w + 1 : Nat) : Int)), (0, vR 77), (1, vI ((s : Nat) : Int)), (2, vI ((v : Nat) : Int)), (3, vI ((np : Nat) : Int)), (4, vI ((p : Nat) : Int))]) rfl ?_
                    refine V.goto (pc := 100) 68 dX8_findSlips_100 (by decide) ?_
                    refine V.locs [1, 2, 3, 4, 5, 0] (ls' := [(0, vR 77), (1, vI ((s : Nat) : Int)), (2, vI ((v : Nat) : Int)), (3, vI ((np : Nat) : Int)), (4, vI ((p : Nat) : Int)), (5, vI ((w + 1 : Nat) : Int))]) rfl ?_
                    exact ih68 (w + 1) fa ga (by omega) (by rw [ha1 1 (by decide)]; exact b1) (ha2) (ha3) (fun j hj1 hj3 => by rw [ha1 j hj3]; exact bo j hj1 hj3) (by omega)
                · skip
                  refine V.iconst (pc := 75) (z := 1) dX8_findSlips_75 rfl ⟨by decide, by decide⟩ ?_
                  refine V.goto (pc := 76) 80 dX8_findSlips_76 (by decide) ?_
                  refine V.icmp_ge (pc := 80) 103 dX8_findSlips_80 (by decide) (fun h80 => ?_) (fun h80 => ?_)
                  · skip
                    refine V.iinc (pc := 103) (r := ((p + 1 : Nat) : Int)) 4 dX8_findSlips_103 rfl (w32_of (by omega) (by omega) (by omega)) (by decide) (ls' := [(4, vI ((p + 1 : Nat) : Int)), (0, vR 77), (1, vI ((s : Nat) : Int)), (2, vI ((v : Nat) : Int)), (3, vI ((np : Nat) : Int)), (5, vI ((w : Nat) : Int))]) rfl ?_
                    refine V.goto (pc := 106) 59 dX8_findSlips_106 (by decide) ?_
                    refine V.locs [1, 2, 3, 4, 0] (ls' := [(0, vR 77), (1, vI ((s : Nat) : Int)), (2, vI ((v : Nat) : Int)), (3, vI ((np : Nat) : Int)), (4, vI ((p + 1 : Nat) : Int))]) rfl ?_
                    have ew : w = spW s := by omega
                    exact ih59 (p + 1) f2 g2 (by omega) (b1) (by rw [show slP s v (p + 1) = slW s v p (slP s v p) (spW s) from rfl, ← ew]; exact b3) (by rw [show slP s v (p + 1) = slW s v p (slP s v p) (spW s) from rfl, ← ew]; exact bs) (bo) (by omega)
                  · skip
                    refine V.aload_n (pc := 83) 0 dX8_findSlips_83 rfl ?_
                    refine V.iload_n (pc := 84) 2 dX8_findSlips_84 rfl ?_
                    refine V.aload_n (pc := 85) 0 dX8_findSlips_85 rfl ?_
                    refine V.iload_n (pc := 86) 1 dX8_findSlips_86 rfl ?_
                    refine V.iload (pc := 87) 4 dX8_findSlips_87 rfl ?_
                    refine V.iload (pc := 89) 5 dX8_findSlips_89 rfl ?_
                    refine V.callV (pc := 91) (e1 := eX8_numberWith) (o := 77) (c := 8) 3 [vI ((s : Nat) : Int), vI ((p : Nat) : Int), vI ((w : Nat) : Int)] [vI ((v : Nat) : Int), vR 77] mfX8_numberWith slX8_numberWith mlX8_95 dX8_findSlips_91 (kS_77) (by decide) rfl rfl rfl (Nat.le_of_ble_eq_true rfl) ⟨by decide, by decide, by decide, by decide⟩ ?_
                    refine c_X8_numberWith (upR (upR (upR hi 77 f2) 78 gly) 79 g2) hl v hv b1 (fun i hi => hly i hi) s p w (by omega) (by omega) (by omega) (by omega) _ ?_
                    refine V.qI (pc := 91) rfl rfl ?_
                    refine V.callV (pc := 94) (e1 := eX8_addSlip) (o := 77) (c := 8) 2 [vI ((v : Nat) : Int), vI ((sp s v p w : Nat) : Int)] [] mfX8_addSlip slX8_addSlip mlX8_99 dX8_findSlips_94 (kS_77) (by decide) rfl rfl rfl (Nat.le_of_ble_eq_true rfl) ⟨by decide, by decide, by decide, by decide⟩ ?_
                    refine c_X8_addSlip (upR (upR (upR hi 77 f2) 78 gly) 79 g2) hl v (sp s v p w) (slW s v p (slP s v p) w) b3 bs (by omega) _ (fun fa ga ha1 ha2 ha3 => ?_)
                    refine V.qV (pc := 94) rfl rfl ?_
                    refine V.hieq (hi' := (upR (upR (upR hi 77 fa) 78 gly) 79 ga)) ((upR_c (rs (by decide) (rs (by decide) r1))).trans r1) ?_
                    refine V.iinc (pc := 97) (r := ((w + 1 : Nat) : Int)) 5 dX8_findSlips_97 rfl (w32_of (by omega) (by omega) (by omega)) (by decide) (ls' := [(5, vI ((w + 1 : Nat) : Int)), (0, vR 77), (1, vI ((s : Nat) : Int)), (2, vI ((v : Nat) : Int)), (3, vI ((np : Nat) : Int)), (4, vI ((p : Nat) : Int))]) rfl ?_
                    refine V.goto (pc := 100) 68 dX8_findSlips_100 (by decide) ?_
                    refine V.locs [1, 2, 3, 4, 5, 0] (ls' := [(0, vR 77), (1, vI ((s : Nat) : Int)), (2, vI ((v : Nat) : Int)), (3, vI ((np : Nat) : Int)), (4, vI ((p : Nat) : Int)), (5, vI ((w + 1 : Nat) : Int))]) rfl ?_
                    exact ih68 (w + 1) fa ga (by omega) (by rw [ha1 1 (by decide)]; exact b1) (ha2) (ha3) (fun j hj1 hj3 => by rw [ha1 j hj3]; exact bo j hj1 hj3) (by omega)
            refine V.locs [1, 2, 3, 4, 5, 0] (ls' := [(0, vR 77), (1, vI ((s : Nat) : Int)), (2, vI ((v : Nat) : Int)), (3, vI ((np : Nat) : Int)), (4, vI ((p : Nat) : Int)), (5, vI 0)]) rfl ?_
            exact lp68 _ 0 f g (by omega) (g1) (g3) (gs) (go) (Nat.lt_succ_self _)
      refine V.locs [2, 3, 4, 1, 0] (ls' := [(0, vR 77), (1, vI ((s : Nat) : Int)), (2, vI ((v : Nat) : Int)), (3, vI ((np : Nat) : Int)), (4, vI 0)]) rfl ?_
      exact lp59 _ 0 (updF (updF (hi 77) 3 0) 1 ((L3 v : Nat) : Int)) (hi 79) (by omega) (updF_s) (by rw [updF_n (by decide), updF_s]; rfl) (fun i hi => absurd hi (Nat.not_lt_zero i)) (fun j h1 h3 => by rw [updF_n h1, updF_n h3]) (Nat.lt_succ_self _)
    refine V.iload_n (pc := 23) 1 dX8_findSlips_23 rfl ?_
    refine V.iconst (pc := 24) (z := 3) dX8_findSlips_24 rfl ⟨by decide, by decide⟩ ?_
    refine V.icmp_ne (pc := 25) 37 dX8_findSlips_25 (by decide) (fun h25 => ?_) (fun h25 => ?_)
    · skip
      refine V.iload_n (pc := 37) 1 dX8_findSlips_37 rfl ?_
      refine V.iconst (pc := 38) (z := 3) dX8_findSlips_38 rfl ⟨by decide, by decide⟩ ?_
      refine V.icmp_ne (pc := 39) 51 dX8_findSlips_39 (by decide) (fun h39 => ?_) (fun h39 => ?_)
      · skip
        refine V.aload_n (pc := 51) 0 dX8_findSlips_51 rfl ?_
        refine V.gi (pc := 52) 8 1 ((L3 v : Nat) : Int) flX8_83 dX8_findSlips_52 (kS_77) (by decide) (by decide) rfl (rfl) ?_
        exact ct55 (L3 v) (by unfold spP; split; { split <;> omega }; { omega })
      · skip
        refine V.aload_n (pc := 42) 0 dX8_findSlips_42 rfl ?_
        refine V.gi (pc := 43) 8 1 ((L3 v : Nat) : Int) flX8_83 dX8_findSlips_43 (kS_77) (by decide) (by decide) rfl (rfl) ?_
        refine V.iconst (pc := 46) (z := 1) dX8_findSlips_46 rfl ⟨by decide, by decide⟩ ?_
        refine V.iadd (pc := 47) ((((L3 v + 1) : Nat) : Int)) dX8_findSlips_47 (addN (a := L3 v) (b := 1) (by omega)) ?_
        refine V.goto (pc := 48) 55 dX8_findSlips_48 (by decide) ?_
        exact ct55 (L3 v + 1) (by unfold spP; split; { split <;> omega }; { omega })
    · skip
      refine V.aload_n (pc := 28) 0 dX8_findSlips_28 rfl ?_
      refine V.gi (pc := 29) 8 1 ((L3 v : Nat) : Int) flX8_83 dX8_findSlips_29 (kS_77) (by decide) (by decide) rfl (rfl) ?_
      refine V.iconst (pc := 32) (z := 5) dX8_findSlips_32 rfl ⟨by decide, by decide⟩ ?_
      refine V.icmp_ne (pc := 33) 37 dX8_findSlips_33 (by decide) (fun h33 => ?_) (fun h33 => ?_)
      · skip
        refine V.iload_n (pc := 37) 1 dX8_findSlips_37 rfl ?_
        refine V.iconst (pc := 38) (z := 3) dX8_findSlips_38 rfl ⟨by decide, by decide⟩ ?_
        refine V.icmp_ne (pc := 39) 51 dX8_findSlips_39 (by decide) (fun h39 => ?_) (fun h39 => ?_)
        · skip
          refine V.aload_n (pc := 51) 0 dX8_findSlips_51 rfl ?_
          refine V.gi (pc := 52) 8 1 ((L3 v : Nat) : Int) flX8_83 dX8_findSlips_52 (kS_77) (by decide) (by decide) rfl (rfl) ?_
          exact ct55 (L3 v) (by unfold spP; split; { split <;> omega }; { omega })
        · skip
          refine V.aload_n (pc := 42) 0 dX8_findSlips_42 rfl ?_
          refine V.gi (pc := 43) 8 1 ((L3 v : Nat) : Int) flX8_83 dX8_findSlips_43 (kS_77) (by decide) (by decide) rfl (rfl) ?_
          refine V.iconst (pc := 46) (z := 1) dX8_findSlips_46 rfl ⟨by decide, by decide⟩ ?_
          refine V.iadd (pc := 47) ((((L3 v + 1) : Nat) : Int)) dX8_findSlips_47 (addN (a := L3 v) (b := 1) (by omega)) ?_
          refine V.goto (pc := 48) 55 dX8_findSlips_48 (by decide) ?_
          exact ct55 (L3 v + 1) (by unfold spP; split; { split <;> omega }; { omega })
      · skip
        refine V.vret (pc := 36) dX8_findSlips_36 rfl ?_
        have e0 : spP s v = 0 := by unfold spP; rw [if_pos (by omega), if_pos (by omega)]
        have esl0 : slL s v = [] := by unfold slL; rw [if_pos (by omega), e0]; rfl
        have esn : slN s v = 0 := by unfold slN; rw [esl0]; rfl
        exact hq _ _ _ (fun j hj1 hj3 => by rw [updF_n hj1, updF_n hj3]) (by rw [esn]; rfl) (fun i hi => by rw [esn] at hi; omega)
  · skip
    refine V.qI (pc := 11) rfl rfl ?_
    refine V.if_ne (pc := 14) 18 dX8_findSlips_14 (by decide) (fun hc => by exact absurd hc (by decide)) (fun h14 => ?_)
    refine V.vret (pc := 17) dX8_findSlips_17 rfl ?_
    exact hq _ _ _ (fun j _ hj3 => updF_n hj3) (by rw [updF_s, slN_0 (by omega)]; rfl) (fun i hi => by rw [slN_0 (by omega)] at hi; omega)

