set_option maxRecDepth 100000 in
theorem c_X8_costOf (hi hl : HI) (c : Nat → Int) (hb : ∀ v, v < 364 → 0 ≤ c v ∧ c v ≤ 1000) (hc : ∀ v, v < 364 → hi 88 (364 * 16 + v) = c v) (v : Nat) (hv : v < 364) (Q : QT) (hq : Q (some (vI (nvr (c v)))) KW hi hl) : Con eX8_costOf [vR 77, vI (v : Nat)] KW hi hl Q := by
  refine Con.ofV (by decide +kernel) (Nat.le_of_ble_eq_true rfl) ?_
  show V eX8_costOf none KW 0 [(0, vR 77), (1, vI ((v : Nat) : Int))] [] hi hl 0 0 Q
  have hbv := hb v hv
  refine V.aload_n (pc := 0) 0 dX8_costOf_0 rfl ?_
  refine V.gr (pc := 1) 8 17 88 flX8_41 dX8_costOf_1 (kS_77) (by decide) (by decide) rfl (kR_77_17) ?_
  refine V.bipush (pc := 4) (z := 16) dX8_costOf_4 (by decide +kernel) ⟨by decide, by decide⟩ ?_
  refine V.iload_n (pc := 6) 1 dX8_costOf_6 rfl ?_
  refine V.callS (pc := 7) (e1 := eX8_at) 2 [vI 16, vI ((v : Nat) : Int)] [vR 88] mfX8_at slX8_at mlX8_175 dX8_costOf_7 rfl rfl (Nat.le_of_ble_eq_true rfl) ⟨by decide, by decide, by decide, by decide⟩ ?_
  refine c_X8_at KW hi hl 16 v (by omega) (by omega) _ ?_
  refine V.qI (pc := 7) rfl rfl ?_
  refine V.ia (pc := 10) (len := 6188) (364 * 16 + v) (c v) dX8_costOf_10 (kS_88) (rfl) (by omega) (hc v hv) ?_
  refine V.istore_n (pc := 11) (i := 2) dX8_costOf_11 rfl (by decide) (ls' := [(2, vI (c v)), (0, vR 77), (1, vI ((v : Nat) : Int))]) rfl ?_
  refine V.iload_n (pc := 12) 0 dX8_costOf_12 rfl ?_
  refine V.sipush (pc := 13) (z := 1000) dX8_costOf_13 (by decide +kernel) ⟨by decide, by decide⟩ ?_
  refine V.icmp_ge (pc := 16) 23 dX8_costOf_16 (by decide) (fun h16 => ?_) (fun h16 => ?_)
  · skip
    refine V.bipush (pc := 23) (z := (-6)) dX8_costOf_23 (by decide +kernel) ⟨by decide, by decide⟩ ?_
    refine V.iret (pc := 25) (z := (-6)) dX8_costOf_25 rfl ?_
    rw [nvr_n (by omega)] at hq
    exact hq
  · skip
    refine V.iload_n (pc := 19) 0 dX8_costOf_19 rfl ?_
    refine V.goto (pc := 20) 25 dX8_costOf_20 (by decide) ?_
    refine V.iret (pc := 25) (z := (c v)) dX8_costOf_25 rfl ?_
    rw [nvr_y (by omega)] at hq
    exact hq

set_option maxRecDepth 100000 in
theorem c_X8_leastCost (hi hl : HI) (c : Nat → Int) (hb : ∀ v, v < 364 → 0 ≤ c v ∧ c v ≤ 1000) (hc : ∀ v, v < 364 → hi 88 (364 * 16 + v) = c v) (Q : QT) (hq : Q (some (vI (lcF c 364))) KW hi hl) : Con eX8_leastCost [vR 77] KW hi hl Q := by
  refine Con.ofV (by decide +kernel) (Nat.le_of_ble_eq_true rfl) ?_
  show V eX8_leastCost none KW 0 [(0, vR 77)] [] hi hl 0 0 Q
  refine V.bipush (pc := 0) (z := (-6)) dX8_leastCost_0 (by decide +kernel) ⟨by decide, by decide⟩ ?_
  refine V.istore_n (pc := 2) (i := 1) dX8_leastCost_2 rfl (by decide) (ls' := [(1, vI (-6)), (0, vR 77)]) rfl ?_
  refine V.iconst (pc := 3) (z := 0) dX8_leastCost_3 rfl ⟨by decide, by decide⟩ ?_
  refine V.istore_n (pc := 4) (i := 2) dX8_leastCost_4 rfl (by decide) (ls' := [(2, vI 0), (1, vI (-6)), (0, vR 77)]) rfl ?_
  have lp5 : ∀ (fu5 : Nat) (k : Nat), (k ≤ 364) → 364 - k < fu5 → V eX8_leastCost none KW 5 [(0, vR 77), (1, vI (lcF c k)), (2, vI ((k : Nat) : Int))] [] hi hl 0 0 Q := by
    intro fu5
    induction fu5 with
    | zero => intro k hk hm5; exact absurd hm5 (Nat.not_lt_zero _)
    | succ fu5 ih5 =>
      intro k hk hm5
      have hmb := mnF_b hb k hk
      refine V.iload_n (pc := 5) 2 dX8_leastCost_5 rfl ?_
      refine V.sipush (pc := 6) (z := 364) dX8_leastCost_6 (by decide +kernel) ⟨by decide, by decide⟩ ?_
      refine V.icmp_ge (pc := 9) 43 dX8_leastCost_9 (by decide) (fun h9 => ?_) (fun h9 => ?_)
      · skip
        refine V.iload_n (pc := 43) 1 dX8_leastCost_43 rfl ?_
        refine V.iret (pc := 44) (z := (lcF c k)) dX8_leastCost_44 rfl ?_
        have e : k = 364 := by omega
        subst e
        exact hq
      · skip
        refine V.aload_n (pc := 12) 0 dX8_leastCost_12 rfl ?_
        refine V.iload_n (pc := 13) 2 dX8_leastCost_13 rfl ?_
        refine V.callV (pc := 14) (e1 := eX8_costOf) (o := 77) (c := 8) 1 [vI ((k : Nat) : Int)] [] mfX8_costOf slX8_costOf mlX8_184 dX8_leastCost_14 (kS_77) (by decide) rfl rfl rfl (Nat.le_of_ble_eq_true rfl) ⟨by decide, by decide, by decide, by decide⟩ ?_
        refine c_X8_costOf hi hl c hb hc k (by omega) _ ?_
        refine V.qI (pc := 14) rfl rfl ?_
        refine V.istore_n (pc := 17) (i := 3) dX8_leastCost_17 rfl (by decide) (ls' := [(3, vI (nvr (c k))), (0, vR 77), (1, vI (lcF c k)), (2, vI ((k : Nat) : Int))]) rfl ?_
        refine V.iload_n (pc := 18) 0 dX8_leastCost_18 rfl ?_
        refine V.if_lt (pc := 19) 35 dX8_leastCost_19 (by decide) (fun h19 => ?_) (fun h19 => ?_)
        · skip
          refine V.iload_n (pc := 35) 2 dX8_leastCost_35 rfl ?_
          refine V.istore_n (pc := 36) (i := 1) dX8_leastCost_36 rfl (by decide) (ls' := [(1, vI (lcF c k)), (3, vI (nvr (c k))), (0, vR 77), (2, vI ((k : Nat) : Int))]) rfl ?_
          refine V.iinc (pc := 37) (r := ((k + 1 : Nat) : Int)) 3 dX8_leastCost_37 rfl (w32_of (by omega) (by omega) (by omega)) (by decide) (ls' := [(2, vI ((k + 1 : Nat) : Int)), (1, vI (lcF c k)), (3, vI (nvr (c k))), (0, vR 77)]) rfl ?_
          refine V.goto (pc := 40) 5 dX8_leastCost_40 (by decide) ?_
          refine V.locs [3, 1, 0] (ls' := [(0, vR 77), (1, vI (lcF c k)), (2, vI ((k + 1 : Nat) : Int))]) rfl ?_
          have e : lcF c (k + 1) = lcF c k := lcF_a hmb (hb k (by omega)).1 h19
          rw [← e]
          exact ih5 (k + 1) (by omega) (by omega)
        · skip
          refine V.iload_n (pc := 22) 2 dX8_leastCost_22 rfl ?_
          refine V.if_lt (pc := 23) 31 dX8_leastCost_23 (by decide) (fun h23 => ?_) (fun h23 => ?_)
          · skip
            refine V.iload_n (pc := 31) 0 dX8_leastCost_31 rfl ?_
            refine V.goto (pc := 32) 36 dX8_leastCost_32 (by decide) ?_
            refine V.istore_n (pc := 36) (i := 1) dX8_leastCost_36 rfl (by decide) (ls' := [(1, vI (nvr (c k))), (3, vI (nvr (c k))), (0, vR 77), (2, vI ((k : Nat) : Int))]) rfl ?_
            refine V.iinc (pc := 37) (r := ((k + 1 : Nat) : Int)) 3 dX8_leastCost_37 rfl (w32_of (by omega) (by omega) (by omega)) (by decide) (ls' := [(2, vI ((k + 1 : Nat) : Int)), (1, vI (nvr (c k))), (3, vI (nvr (c k))), (0, vR 77)]) rfl ?_
            refine V.goto (pc := 40) 5 dX8_leastCost_40 (by decide) ?_
            refine V.locs [3, 1, 0] (ls' := [(0, vR 77), (1, vI (nvr (c k))), (2, vI ((k + 1 : Nat) : Int))]) rfl ?_
            have e : lcF c (k + 1) = nvr (c k) := lcF_b hmb (by omega) (Or.inl h23)
            rw [← e]
            exact ih5 (k + 1) (by omega) (by omega)
          · skip
            refine V.iload_n (pc := 26) 0 dX8_leastCost_26 rfl ?_
            refine V.iload_n (pc := 27) 2 dX8_leastCost_27 rfl ?_
            refine V.icmp_ge (pc := 28) 35 dX8_leastCost_28 (by decide) (fun h28 => ?_) (fun h28 => ?_)
            · skip
              refine V.iload_n (pc := 35) 2 dX8_leastCost_35 rfl ?_
              refine V.istore_n (pc := 36) (i := 1) dX8_leastCost_36 rfl (by decide) (ls' := [(1, vI (lcF c k)), (3, vI (nvr (c k))), (0, vR 77), (2, vI ((k : Nat) : Int))]) rfl ?_
              refine V.iinc (pc := 37) (r := ((k + 1 : Nat) : Int)) 3 dX8_leastCost_37 rfl (w32_of (by omega) (by omega) (by omega)) (by decide) (ls' := [(2, vI ((k + 1 : Nat) : Int)), (1, vI (lcF c k)), (3, vI (nvr (c k))), (0, vR 77)]) rfl ?_
              refine V.goto (pc := 40) 5 dX8_leastCost_40 (by decide) ?_
              refine V.locs [3, 1, 0] (ls' := [(0, vR 77), (1, vI (lcF c k)), (2, vI ((k + 1 : Nat) : Int))]) rfl ?_
              have e : lcF c (k + 1) = lcF c k := lcF_c (by omega) h23 h28
              rw [← e]
              exact ih5 (k + 1) (by omega) (by omega)
            · skip
              refine V.iload_n (pc := 31) 0 dX8_leastCost_31 rfl ?_
              refine V.goto (pc := 32) 36 dX8_leastCost_32 (by decide) ?_
              refine V.istore_n (pc := 36) (i := 1) dX8_leastCost_36 rfl (by decide) (ls' := [(1, vI (nvr (c k))), (3, vI (nvr (c k))), (0, vR 77), (2, vI ((k : Nat) : Int))]) rfl ?_
              refine V.iinc (pc := 37) (r := ((k + 1 : Nat) : Int)) 3 dX8_leastCost_37 rfl (w32_of (by omega) (by omega) (by omega)) (by decide) (ls' := [(2, vI ((k + 1 : Nat) : Int)), (1, vI (nvr (c k))), (3, vI (nvr (c k))), (0, vR 77)]) rfl ?_
              refine V.goto (pc := 40) 5 dX8_leastCost_40 (by decide) ?_
              refine V.locs [3, 1, 0] (ls' := [(0, vR 77), (1, vI (nvr (c k))), (2, vI ((k + 1 : Nat) : Int))]) rfl ?_
              have e : lcF c (k + 1) = nvr (c k) := lcF_b hmb (by omega) (Or.inr (by omega))
              rw [← e]
              exact ih5 (k + 1) (by omega) (by omega)
  refine V.locs [2, 1, 0] (ls' := [(0, vR 77), (1, vI (-6)), (2, vI 0)]) rfl ?_
  exact lp5 _ 0 (by omega) (Nat.lt_succ_self _)

set_option maxRecDepth 100000 in
theorem c_X8_waysOf (hi hl : HI) (c : Nat → Int) (hb : ∀ v, v < 364 → 0 ≤ c v ∧ c v ≤ 1000) (hc : ∀ v, v < 364 → hi 88 (364 * 16 + v) = c v) (n : Nat → Int) (hn : ∀ v, v < 364 → c v < 1000 → hl 89 (364 * 16 + v) = n v) (v : Nat) (hv : v < 364) (z : Int) (Q : QT) (hq : Q (some (vL (wvF c n v z))) KW hi hl) : Con eX8_waysOf [vR 77, vI (v : Nat), vI z] KW hi hl Q := by
  refine Con.ofV (by decide +kernel) (Nat.le_of_ble_eq_true rfl) ?_
  show V eX8_waysOf none KW 0 [(0, vR 77), (1, vI ((v : Nat) : Int)), (2, vI z)] [] hi hl 0 0 Q
  refine V.iload_n (pc := 0) 2 dX8_waysOf_0 rfl ?_
  refine V.if_lt (pc := 1) 27 dX8_waysOf_1 (by decide) (fun h1 => ?_) (fun h1 => ?_)
  · skip
    refine V.lconst (pc := 27) (z := 0) dX8_waysOf_27 (by decide +kernel) ⟨by decide, by decide⟩ ?_
    refine V.lret (pc := 28) (z := 0) dX8_waysOf_28 rfl ?_
    rw [show wvF c n v z = 0 by unfold wvF; rw [if_neg (by omega)]] at hq
    exact hq
  · skip
    refine V.aload_n (pc := 4) 0 dX8_waysOf_4 rfl ?_
    refine V.iload_n (pc := 5) 1 dX8_waysOf_5 rfl ?_
    refine V.callV (pc := 6) (e1 := eX8_costOf) (o := 77) (c := 8) 1 [vI ((v : Nat) : Int)] [] mfX8_costOf slX8_costOf mlX8_184 dX8_waysOf_6 (kS_77) (by decide) rfl rfl rfl (Nat.le_of_ble_eq_true rfl) ⟨by decide, by decide, by decide, by decide⟩ ?_
    refine c_X8_costOf hi hl c hb hc v (by omega) _ ?_
    refine V.qI (pc := 6) rfl rfl ?_
    refine V.iload_n (pc := 9) 2 dX8_waysOf_9 rfl ?_
    refine V.icmp_ne (pc := 10) 27 dX8_waysOf_10 (by decide) (fun h10 => ?_) (fun h10 => ?_)
    · skip
      refine V.lconst (pc := 27) (z := 0) dX8_waysOf_27 (by decide +kernel) ⟨by decide, by decide⟩ ?_
      refine V.lret (pc := 28) (z := 0) dX8_waysOf_28 rfl ?_
      rw [show wvF c n v z = 0 by unfold wvF; rw [if_neg (by omega)]] at hq
      exact hq
    · skip
      refine V.aload_n (pc := 13) 0 dX8_waysOf_13 rfl ?_
      refine V.gr (pc := 14) 8 18 89 flX8_44 dX8_waysOf_14 (kS_77) (by decide) (by decide) rfl (kR_77_18) ?_
      refine V.bipush (pc := 17) (z := 16) dX8_waysOf_17 (by decide +kernel) ⟨by decide, by decide⟩ ?_
      refine V.iload_n (pc := 19) 1 dX8_waysOf_19 rfl ?_
      refine V.callS (pc := 20) (e1 := eX8_at) 2 [vI 16, vI ((v : Nat) : Int)] [vR 89] mfX8_at slX8_at mlX8_175 dX8_waysOf_20 rfl rfl (Nat.le_of_ble_eq_true rfl) ⟨by decide, by decide, by decide, by decide⟩ ?_
      refine c_X8_at KW hi hl 16 v (by omega) (by omega) _ ?_
      refine V.qI (pc := 20) rfl rfl ?_
      refine V.la (pc := 23) (len := 6188) (364 * 16 + v) (n v) dX8_waysOf_23 (kS_89) (rfl) (by omega) (hn v hv (nvr_0 (by omega)).1) ?_
      refine V.goto (pc := 24) 28 dX8_waysOf_24 (by decide) ?_
      refine V.lret (pc := 28) (z := (n v)) dX8_waysOf_28 rfl ?_
      rw [show wvF c n v z = n v by unfold wvF; rw [if_pos ⟨by omega, by omega⟩]] at hq
      exact hq

set_option maxRecDepth 100000 in
theorem c_X8_canBeBy (hi hl : HI) (c : Nat → Int) (hb : ∀ v, v < 364 → 0 ≤ c v ∧ c v ≤ 1000) (hc : ∀ v, v < 364 → hi 88 (364 * 16 + v) = c v) (k : Int) (hk : 0 ≤ k ∧ k ≤ 16) (Q : QT) (hq : Q (some (vI (ctF c k 364 : Nat))) KW hi hl) : Con eX8_canBeBy [vR 77, vI k] KW hi hl Q := by
  refine Con.ofV (by decide +kernel) (Nat.le_of_ble_eq_true rfl) ?_
  show V eX8_canBeBy none KW 0 [(0, vR 77), (1, vI k)] [] hi hl 0 0 Q
  refine V.iconst (pc := 0) (z := 0) dX8_canBeBy_0 rfl ⟨by decide, by decide⟩ ?_
  refine V.istore_n (pc := 1) (i := 2) dX8_canBeBy_1 rfl (by decide) (ls' := [(2, vI 0), (0, vR 77), (1, vI k)]) rfl ?_
  refine V.iconst (pc := 2) (z := 0) dX8_canBeBy_2 rfl ⟨by decide, by decide⟩ ?_
  refine V.istore_n (pc := 3) (i := 3) dX8_canBeBy_3 rfl (by decide) (ls' := [(3, vI 0), (2, vI 0), (0, vR 77), (1, vI k)]) rfl ?_
  have lp4 : ∀ (fu4 : Nat) (j : Nat), (j ≤ 364) → 364 - j < fu4 → V eX8_canBeBy none KW 4 [(0, vR 77), (1, vI k), (2, vI (((ctF c k j) : Nat) : Int)), (3, vI ((j : Nat) : Int))] [] hi hl 0 0 Q := by
    intro fu4
    induction fu4 with
    | zero => intro j hj hm4; exact absurd hm4 (Nat.not_lt_zero _)
    | succ fu4 ih4 =>
      intro j hj hm4
      have hcl := ctF_le c k j
      have hst := fun hj2 : j < 364 => ct_step (c := c) (x := k) (k := j) (by omega) (hb j hj2).1
      refine V.iload_n (pc := 4) 3 dX8_canBeBy_4 rfl ?_
      refine V.sipush (pc := 5) (z := 364) dX8_canBeBy_5 (by decide +kernel) ⟨by decide, by decide⟩ ?_
      refine V.icmp_ge (pc := 8) 40 dX8_canBeBy_8 (by decide) (fun h8 => ?_) (fun h8 => ?_)
      · skip
        refine V.iload_n (pc := 40) 2 dX8_canBeBy_40 rfl ?_
        refine V.iret (pc := 41) (z := (((ctF c k j) : Nat) : Int)) dX8_canBeBy_41 rfl ?_
        have e : j = 364 := by omega
        subst e
        exact hq
      · skip
        refine V.iload_n (pc := 11) 2 dX8_canBeBy_11 rfl ?_
        refine V.aload_n (pc := 12) 0 dX8_canBeBy_12 rfl ?_
        refine V.iload_n (pc := 13) 3 dX8_canBeBy_13 rfl ?_
        refine V.callV (pc := 14) (e1 := eX8_costOf) (o := 77) (c := 8) 1 [vI ((j : Nat) : Int)] [vI (((ctF c k j) : Nat) : Int)] mfX8_costOf slX8_costOf mlX8_184 dX8_canBeBy_14 (kS_77) (by decide) rfl rfl rfl (Nat.le_of_ble_eq_true rfl) ⟨by decide, by decide, by decide, by decide⟩ ?_
        refine c_X8_costOf hi hl c hb hc j (by omega) _ ?_
        refine V.qI (pc := 14) rfl rfl ?_
        refine V.i2l (pc := 17) dX8_canBeBy_17 ?_
        refine V.lconst (pc := 18) (z := 0) dX8_canBeBy_18 (by decide +kernel) ⟨by decide, by decide⟩ ?_
        refine V.iload_n (pc := 19) 1 dX8_canBeBy_19 rfl ?_
        refine V.i2l (pc := 20) dX8_canBeBy_20 ?_
        refine V.callS (pc := 21) (e1 := eX8_in) 3 [vL (nvr (c j)), vL 0, vL k] [vI (((ctF c k j) : Nat) : Int)] mfX8_in slX8_in mlX8_72 dX8_canBeBy_21 rfl rfl (Nat.le_of_ble_eq_true rfl) ⟨by decide, by decide, by decide, by decide⟩ ?_
        refine c_X8_in KW hi hl (nvr (c j)) 0 k _ (fun hinz => ?_) (fun hinz => ?_)
        · have e := (hst (by omega)).1 hinz
          refine V.qI (pc := 21) rfl rfl ?_
          refine V.if_eq (pc := 24) 31 dX8_canBeBy_24 (by decide) (fun hc => by exact absurd hc (by decide)) (fun h24 => ?_)
          refine V.iconst (pc := 27) (z := 1) dX8_canBeBy_27 rfl ⟨by decide, by decide⟩ ?_
          refine V.goto (pc := 28) 32 dX8_canBeBy_28 (by decide) ?_
          refine V.iadd (pc := 32) ((((ctF c k (j + 1)) : Nat) : Int)) dX8_canBeBy_32 (by rw [e]; exact addN (a := ctF c k j) (b := 1) (by omega)) ?_
          refine V.istore_n (pc := 33) (i := 2) dX8_canBeBy_33 rfl (by decide) (ls' := [(2, vI (((ctF c k (j + 1)) : Nat) : Int)), (0, vR 77), (1, vI k), (3, vI ((j : Nat) : Int))]) rfl ?_
          refine V.iinc (pc := 34) (r := ((j + 1 : Nat) : Int)) 3 dX8_canBeBy_34 rfl (w32_of (by omega) (by omega) (by omega)) (by decide) (ls' := [(3, vI ((j + 1 : Nat) : Int)), (2, vI (((ctF c k (j + 1)) : Nat) : Int)), (0, vR 77), (1, vI k)]) rfl ?_
          refine V.goto (pc := 37) 4 dX8_canBeBy_37 (by decide) ?_
          refine V.locs [2, 3, 1, 0] (ls' := [(0, vR 77), (1, vI k), (2, vI (((ctF c k (j + 1)) : Nat) : Int)), (3, vI ((j + 1 : Nat) : Int))]) rfl ?_
          exact ih4 (j + 1) (by omega) (by omega)
        · have e := (hst (by omega)).2 hinz
          refine V.qI (pc := 21) rfl rfl ?_
          refine V.if_eq (pc := 24) 31 dX8_canBeBy_24 (by decide) (fun h24 => ?_) (fun hc => by exact absurd hc (by decide))
          refine V.iconst (pc := 31) (z := 0) dX8_canBeBy_31 rfl ⟨by decide, by decide⟩ ?_
          refine V.iadd (pc := 32) ((((ctF c k (j + 1)) : Nat) : Int)) dX8_canBeBy_32 (by rw [e]; exact w32_of (by omega) (by omega) (by omega)) ?_
          refine V.istore_n (pc := 33) (i := 2) dX8_canBeBy_33 rfl (by decide) (ls' := [(2, vI (((ctF c k (j + 1)) : Nat) : Int)), (0, vR 77), (1, vI k), (3, vI ((j : Nat) : Int))]) rfl ?_
          refine V.iinc (pc := 34) (r := ((j + 1 : Nat) : Int)) 3 dX8_canBeBy_34 rfl (w32_of (by omega) (by omega) (by omega)) (by decide) (ls' := [(3, vI ((j + 1 : Nat) : Int)), (2, vI (((ctF c k (j + 1)) : Nat) : Int)), (0, vR 77), (1, vI k)]) rfl ?_
          refine V.goto (pc := 37) 4 dX8_canBeBy_37 (by decide) ?_
          refine V.locs [2, 3, 1, 0] (ls' := [(0, vR 77), (1, vI k), (2, vI (((ctF c k (j + 1)) : Nat) : Int)), (3, vI ((j + 1 : Nat) : Int))]) rfl ?_
          exact ih4 (j + 1) (by omega) (by omega)
  refine V.locs [2, 3, 1, 0] (ls' := [(0, vR 77), (1, vI k), (2, vI 0), (3, vI 0)]) rfl ?_
  exact lp4 _ 0 (by omega) (Nat.lt_succ_self _)

set_option maxRecDepth 100000 in
theorem c_X8_cost (hi hl : HI) (σ : SG) (m : Nat) (g : Nat → Int) (im : Nat → Option SG) (hR : RMo hi hl (σ, m, g, im))  (Q : QT) (hq : ∀ hi' hl' : HI, FrM hi hl hi' hl' → RMo hi' hl' (σ, m, g, im) → Q (some (vI (aCost (σ, m, g, im) ))) KW hi' hl') : Con eX8_cost [vR 77] KW hi hl Q := by
  refine Con.ofV (by decide +kernel) (Nat.le_of_ble_eq_true rfl) ?_
  show V eX8_cost none KW 0 [(0, vR 77)] [] hi hl 0 0 Q
  obtain ⟨hC, ⟨hm, hm2, hg5, hgr⟩, k0, k1, k2, k3⟩ := RM_o hR
  subst hg5
  have hwf := hC.1
  have hn16 := hwf.2.2.1
  have hbg := hwf.2.2.2.2.1
  have hsr := sayF_rng (hi 85) m
  
  refine V.aload_n (pc := 0) 0 dX8_cost_0 rfl ?_
  refine V.callV (pc := 1) (e1 := eX8_faultOfSaying) (o := 77) (c := 8) 0 [] [] mfX8_faultOfSaying slX8_faultOfSaying mlX8_135 dX8_cost_1 (kS_77) (by decide) rfl rfl rfl (Nat.le_of_ble_eq_true rfl) ⟨by decide, by decide, by decide, by decide⟩ ?_
  refine c_X8_faultOfSaying hi hl m hm hm2 _ ?_
  refine V.qI (pc := 1) rfl rfl ?_
  refine V.top (v' := vI (sayF (hi 85) m)) (rfl) ?_
  refine V.if_lt (pc := 4) 10 dX8_cost_4 (by decide) (fun h4 => ?_) (fun h4 => ?_)
  · have hsf : sayF (hi 85) m = -6 := by omega
    have hpv : padV (σ, m, hi 85, im) = (((f3 m + sayV (hi 85) m) : Nat) : Int) := padV_y hsf
    have hsl := padS_lt hsf
    refine V.aload_n (pc := 10) 0 dX8_cost_10 rfl ?_
    refine V.bipush (pc := 11) (z := (-6)) dX8_cost_11 (by decide +kernel) ⟨by decide, by decide⟩ ?_
    refine V.callV (pc := 13) (e1 := eX8_findCosts) (o := 77) (c := 8) 1 [vI (-6)] [] mfX8_findCosts slX8_findCosts mlX8_187 dX8_cost_13 (kS_77) (by decide) rfl rfl rfl (Nat.le_of_ble_eq_true rfl) ⟨by decide, by decide, by decide, by decide⟩ ?_
    refine c_X8_findCosts hi hl σ hC (-6) _ (fun f77 f86 f87 f78 f79 f88 f89 hgd hRW => ?_)
    have hcw : CW f88 f89 σ (-1) := CW_6 (CW_mk hwf hRW)
    refine V.qV (pc := 13) rfl rfl ?_
    refine V.hieq (hi' := (upR (upR (upR (upR (upR (upR hi 88 f88) 79 f79) 78 f78) 87 f87) 86 f86) 77 f77)) ((upR_c ((upR_c ((upR_c ((upR_c ((upR_c r0).trans (rs (by decide) r0))).trans (rs (by decide) (rs (by decide) r0)))).trans (rs (by decide) (rs (by decide) (rs (by decide) r0))))).trans (rs (by decide) (rs (by decide) (rs (by decide) (rs (by decide) r0)))))).trans (rs (by decide) (rs (by decide) (rs (by decide) (rs (by decide) (rs (by decide) r0)))))) ?_
    refine V.aload_n (pc := 16) 0 dX8_cost_16 rfl ?_
    refine V.aload_n (pc := 17) 0 dX8_cost_17 rfl ?_
    refine V.callV (pc := 18) (e1 := eX8_padSaying) (o := 77) (c := 8) 0 [] [vR 77] mfX8_padSaying slX8_padSaying mlX8_141 dX8_cost_18 (kS_77) (by decide) rfl rfl rfl (Nat.le_of_ble_eq_true rfl) ⟨by decide, by decide, by decide, by decide⟩ ?_
    refine c_X8_padSaying (upR (upR (upR (upR (upR (upR hi 88 f88) 79 f79) 78 f78) 87 f87) 86 f86) 77 f77) (upR hl 89 f89) m ((hgd 13 (by decide) (by decide) (by decide)).trans hm) hm2 hsf _ ?_
    refine V.qI (pc := 18) rfl rfl ?_
    refine V.callV (pc := 21) (e1 := eX8_costOf) (o := 77) (c := 8) 1 [vI ((f3 m + sayV (hi 85) m : Nat) : Int)] [] mfX8_costOf slX8_costOf mlX8_184 dX8_cost_21 (kS_77) (by decide) rfl rfl rfl (Nat.le_of_ble_eq_true rfl) ⟨by decide, by decide, by decide, by decide⟩ ?_
    refine c_X8_costOf (upR (upR (upR (upR (upR (upR hi 88 f88) 79 f79) 78 f78) 87 f87) 86 f86) 77 f77) (upR hl 89 f89) (cX σ (-1)) (BdH_fin hwf) (fun v hv => (hcw v hv).1) (f3 m + sayV (hi 85) m) (by omega) _ ?_
    refine V.qI (pc := 21) rfl rfl ?_
    refine V.iret (pc := 24) (z := (nvr ((cX σ (-1)) (f3 m + sayV (hi 85) m)))) dX8_cost_24 rfl ?_
    have hA : aCost (σ, m, hi 85, im)  = nvr (cX σ (-1) (f3 m + sayV (hi 85) m)) := by
      unfold aCost
      try dsimp only [gσ, gm, gg, gi]
      rw [hpv]
      refine (if_neg (by first | omega | assumption)).trans ?_
      rfl
    rw [hA] at hq
    exact hq _ _ (by repeat (first | exact gr0 | refine gr1 (by decide) ?_ | refine gr2 (by decide) ?_)) (RM_up (hl := hl) hC hm hm2 hgr k0 k1 k2 k3 (hgd 8 (by decide) (by decide) (by decide)) (hgd 9 (by decide) (by decide) (by decide)) (hgd 11 (by decide) (by decide) (by decide)) (hgd 13 (by decide) (by decide) (by decide)) rfl rfl rfl rfl rfl rfl rfl rfl)
  · have hsf : sayF (hi 85) m ≠ -6 := by omega
    have hpv : padV (σ, m, hi 85, im) = -1 := padV_n hsf
    refine V.bipush (pc := 7) (z := (-5)) dX8_cost_7 (by decide +kernel) ⟨by decide, by decide⟩ ?_
    refine V.iret (pc := 9) (z := (-5)) dX8_cost_9 rfl ?_
    have hA : aCost (σ, m, hi 85, im)  = -5 := by
      unfold aCost
      try dsimp only [gσ, gm, gg, gi]
      refine (if_pos (by first | omega | assumption)).trans ?_
      rfl
    rw [hA] at hq
    exact hq _ _ (by repeat (first | exact gr0 | refine gr1 (by decide) ?_ | refine gr2 (by decide) ?_)) hR

set_option maxRecDepth 100000 in
theorem c_X8_likely (hi hl : HI) (σ : SG) (m : Nat) (g : Nat → Int) (im : Nat → Option SG) (hR : RMo hi hl (σ, m, g, im)) (w : Int) (Q : QT) (hq : ∀ hi' hl' : HI, FrM hi hl hi' hl' → RMo hi' hl' (σ, m, g, im) → Q (some (vI (aLik (σ, m, g, im) w))) KW hi' hl') : Con eX8_likely [vR 77, vI w] KW hi hl Q := by
  refine Con.ofV (by decide +kernel) (Nat.le_of_ble_eq_true rfl) ?_
  show V eX8_likely none KW 0 [(0, vR 77), (1, vI w)] [] hi hl 0 0 Q
  obtain ⟨hC, ⟨hm, hm2, hg5, hgr⟩, k0, k1, k2, k3⟩ := RM_o hR
  subst hg5
  have hwf := hC.1
  have hn16 := hwf.2.2.1
  have hbg := hwf.2.2.2.2.1
  refine V.iload_n (pc := 0) 1 dX8_likely_0 rfl ?_
  refine V.i2l (pc := 1) dX8_likely_1 ?_
  refine V.lconst (pc := 2) (z := 0) dX8_likely_2 (by decide +kernel) ⟨by decide, by decide⟩ ?_
  refine V.ldc2 (pc := 3) (z := 2) clX8_190 dX8_likely_3 ⟨by decide, by decide⟩ ?_
  refine V.callS (pc := 6) (e1 := eX8_in) 3 [vL w, vL 0, vL 2] [] mfX8_in slX8_in mlX8_72 dX8_likely_6 rfl rfl (Nat.le_of_ble_eq_true rfl) ⟨by decide, by decide, by decide, by decide⟩ ?_
  refine c_X8_in KW hi hl w 0 2 _ (fun hina => ?_) (fun hina => ?_)
  · skip
    refine V.qI (pc := 6) rfl rfl ?_
    refine V.if_ne (pc := 9) 29 dX8_likely_9 (by decide) (fun h9 => ?_) (fun hc => by exact absurd hc (by decide))
    refine V.aload_n (pc := 29) 0 dX8_likely_29 rfl ?_
    refine V.bipush (pc := 30) (z := (-6)) dX8_likely_30 (by decide +kernel) ⟨by decide, by decide⟩ ?_
    refine V.callV (pc := 32) (e1 := eX8_findCosts) (o := 77) (c := 8) 1 [vI (-6)] [] mfX8_findCosts slX8_findCosts mlX8_187 dX8_likely_32 (kS_77) (by decide) rfl rfl rfl (Nat.le_of_ble_eq_true rfl) ⟨by decide, by decide, by decide, by decide⟩ ?_
    refine c_X8_findCosts hi hl σ hC (-6) _ (fun f77 f86 f87 f78 f79 f88 f89 hgd hRW => ?_)
    have hcw : CW f88 f89 σ (-1) := CW_6 (CW_mk hwf hRW)
    refine V.qV (pc := 32) rfl rfl ?_
    refine V.hieq (hi' := (upR (upR (upR (upR (upR (upR hi 88 f88) 79 f79) 78 f78) 87 f87) 86 f86) 77 f77)) ((upR_c ((upR_c ((upR_c ((upR_c ((upR_c r0).trans (rs (by decide) r0))).trans (rs (by decide) (rs (by decide) r0)))).trans (rs (by decide) (rs (by decide) (rs (by decide) r0))))).trans (rs (by decide) (rs (by decide) (rs (by decide) (rs (by decide) r0)))))).trans (rs (by decide) (rs (by decide) (rs (by decide) (rs (by decide) (rs (by decide) r0)))))) ?_
    refine V.aload_n (pc := 35) 0 dX8_likely_35 rfl ?_
    refine V.callV (pc := 36) (e1 := eX8_leastCost) (o := 77) (c := 8) 0 [] [] mfX8_leastCost slX8_leastCost mlX8_196 dX8_likely_36 (kS_77) (by decide) rfl rfl rfl (Nat.le_of_ble_eq_true rfl) ⟨by decide, by decide, by decide, by decide⟩ ?_
    refine c_X8_leastCost (upR (upR (upR (upR (upR (upR hi 88 f88) 79 f79) 78 f78) 87 f87) 86 f86) 77 f77) (upR hl 89 f89) (cX σ (-1)) (BdH_fin hwf) (fun v hv => (hcw v hv).1) _ ?_
    refine V.qI (pc := 36) rfl rfl ?_
    have hmb := mX_b hwf
    have hlx := lcX hwf
    refine V.istore_n (pc := 39) (i := 2) dX8_likely_39 rfl (by decide) (ls' := [(2, vI (lcF (cX σ (-1)) 364)), (0, vR 77), (1, vI w)]) rfl ?_
    refine V.iload_n (pc := 40) 0 dX8_likely_40 rfl ?_
    refine V.if_lt (pc := 41) 48 dX8_likely_41 (by decide) (fun h41 => ?_) (fun h41 => ?_)
    · have hml : ¬ mX σ < 1000 := fun q => by have := hlx.1 q; omega
      have hm1 : mX σ = 1000 := by omega
      refine V.iload_n (pc := 48) 0 dX8_likely_48 rfl ?_
      refine V.iret (pc := 49) (z := (lcF (cX σ (-1)) 364)) dX8_likely_49 rfl ?_
      by_cases hmm : mX σ < 1000
      · have hle := hlx.1 hmm
        have hA : aLik (σ, m, hi 85, im) w = mX σ := by
          unfold aLik
          try dsimp only [gσ, gm, gg, gi]
          refine (if_neg (by first | omega | assumption)).trans ?_
          refine (if_neg (by first | omega | assumption)).trans ?_
          refine (if_pos (by first | omega | assumption)).trans ?_
          rfl
        rw [hA] at hq
        rw [← hle] at hq
        exact hq _ _ (by repeat (first | exact gr0 | refine gr1 (by decide) ?_ | refine gr2 (by decide) ?_)) (RM_up (hl := hl) hC hm hm2 hgr k0 k1 k2 k3 (hgd 8 (by decide) (by decide) (by decide)) (hgd 9 (by decide) (by decide) (by decide)) (hgd 11 (by decide) (by decide) (by decide)) (hgd 13 (by decide) (by decide) (by decide)) rfl rfl rfl rfl rfl rfl rfl rfl)
      · have hle := hlx.2 hmm
        have hm1 : mX σ = 1000 := by omega
        have hA : aLik (σ, m, hi 85, im) w = -6 := by
          unfold aLik
          try dsimp only [gσ, gm, gg, gi]
          refine (if_neg (by first | omega | assumption)).trans ?_
          refine (if_pos (by first | omega | assumption)).trans ?_
          rfl
        rw [hA] at hq
        rw [← hle] at hq
        exact hq _ _ (by repeat (first | exact gr0 | refine gr1 (by decide) ?_ | refine gr2 (by decide) ?_)) (RM_up (hl := hl) hC hm hm2 hgr k0 k1 k2 k3 (hgd 8 (by decide) (by decide) (by decide)) (hgd 9 (by decide) (by decide) (by decide)) (hgd 11 (by decide) (by decide) (by decide)) (hgd 13 (by decide) (by decide) (by decide)) rfl rfl rfl rfl rfl rfl rfl rfl)
    · have hml : mX σ < 1000 := by by_cases q : mX σ < 1000; { exact q }; { have := hlx.2 q; omega }
      have hle := hlx.1 hml
      obtain ⟨ux1, ux2, _⟩ := up_X hml
      have htf := tX_f hml
      refine V.iload_n (pc := 44) 2 dX8_likely_44 rfl ?_
      refine V.if_ne (pc := 45) 50 dX8_likely_45 (by decide) (fun h45 => ?_) (fun h45 => ?_)
      · skip
        refine V.iconst (pc := 50) (z := 0) dX8_likely_50 rfl ⟨by decide, by decide⟩ ?_
        refine V.istore_n (pc := 51) (i := 3) dX8_likely_51 rfl (by decide) (ls' := [(3, vI 0), (2, vI (lcF (cX σ (-1)) 364)), (0, vR 77), (1, vI w)]) rfl ?_
        refine V.bipush (pc := 52) (z := (-6)) dX8_likely_52 (by decide +kernel) ⟨by decide, by decide⟩ ?_
        refine V.istore (pc := 54) (i := 4) dX8_likely_54 (by decide) (ls' := [(4, vI (-6)), (3, vI 0), (2, vI (lcF (cX σ (-1)) 364)), (0, vR 77), (1, vI w)]) rfl ?_
        refine V.iconst (pc := 56) (z := 0) dX8_likely_56 rfl ⟨by decide, by decide⟩ ?_
        refine V.istore (pc := 57) (i := 5) dX8_likely_57 (by decide) (ls' := [(5, vI 0), (4, vI (-6)), (3, vI 0), (2, vI (lcF (cX σ (-1)) 364)), (0, vR 77), (1, vI w)]) rfl ?_
        have lp59 : ∀ (fu59 : Nat) (k : Nat), (k ≤ 364) → 364 - k < fu59 → V eX8_likely none KW 59 [(0, vR 77), (1, vI w), (2, vI (lcF (cX σ (-1)) 364)), (3, vI (((upN (cX σ (-1)) (mX σ) k) : Nat) : Int)), (4, vI (upF (cX σ (-1)) (mX σ) k)), (5, vI ((k : Nat) : Int))] [] (upR (upR (upR (upR (upR (upR hi 88 f88) 79 f79) 78 f78) 87 f87) 86 f86) 77 f77) (upR hl 89 f89) 0 0 Q := by
          intro fu59
          induction fu59 with
          | zero => intro k hk hm59; exact absurd hm59 (Nat.not_lt_zero _)
          | succ fu59 ih59 =>
            intro k hk hm59
            have hul := upN_le (cX σ (-1)) (mX σ) k
            refine V.iload (pc := 59) 5 dX8_likely_59 rfl ?_
            refine V.sipush (pc := 61) (z := 364) dX8_likely_61 (by decide +kernel) ⟨by decide, by decide⟩ ?_
            refine V.icmp_ge (pc := 64) 99 dX8_likely_64 (by decide) (fun h64 => ?_) (fun h64 => ?_)
            · skip
              refine V.iload_n (pc := 99) 1 dX8_likely_99 rfl ?_
              refine V.iconst (pc := 100) (z := 1) dX8_likely_100 rfl ⟨by decide, by decide⟩ ?_
              refine V.icmp_ne (pc := 101) 108 dX8_likely_101 (by decide) (fun h101 => ?_) (fun h101 => ?_)
              · skip
                have e364 : k = 364 := by omega
                subst e364
                refine V.aload_n (pc := 108) 0 dX8_likely_108 rfl ?_
                refine V.iload (pc := 109) 4 dX8_likely_109 rfl ?_
                refine V.top (v' := vI (encM (some (tX σ).2.1.toNat))) (congrArg vI (ux2.trans (Int.toNat_of_nonneg htf.1).symm)) ?_
                refine V.iload_n (pc := 111) 1 dX8_likely_111 rfl ?_
                refine V.iconst (pc := 112) (z := 2) dX8_likely_112 rfl ⟨by decide, by decide⟩ ?_
                refine V.icmp_ne (pc := 113) 120 dX8_likely_113 (by decide) (fun h113 => ?_) (fun h113 => ?_)
                · skip
                  refine V.iload_n (pc := 120) 1 dX8_likely_120 rfl ?_
                  refine V.bipush (pc := 121) (z := 10) dX8_likely_121 (by decide +kernel) ⟨by decide, by decide⟩ ?_
                  refine V.isub (pc := 123) ((w - 10)) dX8_likely_123 (w32_of (by omega) (by omega) (by omega)) ?_
                  refine V.callV (pc := 124) (e1 := eX8_signAt) (o := 77) (c := 8) 2 [vI (encM (some (tX σ).2.1.toNat)), vI (w - 10)] [] mfX8_signAt slX8_signAt mlX8_168 dX8_likely_124 (kS_77) (by decide) rfl rfl rfl (Nat.le_of_ble_eq_true rfl) ⟨by decide, by decide, by decide, by decide⟩ ?_
                  refine c_X8_signAt (upR (upR (upR (upR (upR (upR hi 88 f88) 79 f79) 78 f78) 87 f87) 86 f86) 77 f77) (upR hl 89 f89) (some (tX σ).2.1.toNat) ((fun v hv => by cases hv; omega)) (w - 10) (by omega) _ (fun fs gs hfs => ?_)
                  refine V.qI (pc := 124) rfl rfl ?_
                  refine V.hieq (hi' := (upR (upR (upR (upR (upR (upR hi 88 f88) 79 f79) 78 gs) 87 f87) 86 f86) 77 fs)) ((upR_c r1).trans (rs (by decide) (rs (by decide) (rs (by decide) r1)))) ?_
                  refine V.iret (pc := 127) (z := (wordO (encC (some (tX σ).2.1.toNat)) (w - 10))) dX8_likely_127 rfl ?_
                  have hA : aLik (σ, m, hi 85, im) w = wordO (encC (some (tX σ).2.1.toNat)) (w - 10) := by
                    unfold aLik
                    try dsimp only [gσ, gm, gg, gi]
                    refine (if_neg (by first | omega | assumption)).trans ?_
                    refine (if_neg (by first | omega | assumption)).trans ?_
                    refine (if_neg (by first | omega | assumption)).trans ?_
                    refine (if_neg (by first | omega | assumption)).trans ?_
                    refine (if_neg (by first | omega | assumption)).trans ?_
                    exact wordO_s.symm
                  rw [hA] at hq
                  exact hq _ _ (by repeat (first | exact gr0 | refine gr1 (by decide) ?_ | refine gr2 (by decide) ?_)) (RM_up (hl := hl) hC hm hm2 hgr k0 k1 k2 k3 ((hfs 8 (by decide)).trans (hgd 8 (by decide) (by decide) (by decide))) ((hfs 9 (by decide)).trans (hgd 9 (by decide) (by decide) (by decide))) ((hfs 11 (by decide)).trans (hgd 11 (by decide) (by decide) (by decide))) ((hfs 13 (by decide)).trans (hgd 13 (by decide) (by decide) (by decide))) rfl rfl rfl rfl rfl rfl rfl rfl)
                · skip
                  refine V.iconst (pc := 116) (z := (-1)) dX8_likely_116 rfl ⟨by decide, by decide⟩ ?_
                  refine V.goto (pc := 117) 124 dX8_likely_117 (by decide) ?_
                  refine V.callV (pc := 124) (e1 := eX8_signAt) (o := 77) (c := 8) 2 [vI (encM (some (tX σ).2.1.toNat)), vI (-1)] [] mfX8_signAt slX8_signAt mlX8_168 dX8_likely_124 (kS_77) (by decide) rfl rfl rfl (Nat.le_of_ble_eq_true rfl) ⟨by decide, by decide, by decide, by decide⟩ ?_
                  refine c_X8_signAt (upR (upR (upR (upR (upR (upR hi 88 f88) 79 f79) 78 f78) 87 f87) 86 f86) 77 f77) (upR hl 89 f89) (some (tX σ).2.1.toNat) ((fun v hv => by cases hv; omega)) (-1) (by omega) _ (fun fs gs hfs => ?_)
                  refine V.qI (pc := 124) rfl rfl ?_
                  refine V.hieq (hi' := (upR (upR (upR (upR (upR (upR hi 88 f88) 79 f79) 78 gs) 87 f87) 86 f86) 77 fs)) ((upR_c r1).trans (rs (by decide) (rs (by decide) (rs (by decide) r1)))) ?_
                  refine V.iret (pc := 127) (z := (wordO (encC (some (tX σ).2.1.toNat)) (-1))) dX8_likely_127 rfl ?_
                  have hA : aLik (σ, m, hi 85, im) w = wordO (encC (some (tX σ).2.1.toNat)) (-1) := by
                    unfold aLik
                    try dsimp only [gσ, gm, gg, gi]
                    refine (if_neg (by first | omega | assumption)).trans ?_
                    refine (if_neg (by first | omega | assumption)).trans ?_
                    refine (if_neg (by first | omega | assumption)).trans ?_
                    refine (if_neg (by first | omega | assumption)).trans ?_
                    refine (if_pos (by first | omega | assumption)).trans ?_
                    exact wordO_s.symm
                  rw [hA] at hq
                  exact hq _ _ (by repeat (first | exact gr0 | refine gr1 (by decide) ?_ | refine gr2 (by decide) ?_)) (RM_up (hl := hl) hC hm hm2 hgr k0 k1 k2 k3 ((hfs 8 (by decide)).trans (hgd 8 (by decide) (by decide) (by decide))) ((hfs 9 (by decide)).trans (hgd 9 (by decide) (by decide) (by decide))) ((hfs 11 (by decide)).trans (hgd 11 (by decide) (by decide) (by decide))) ((hfs 13 (by decide)).trans (hgd 13 (by decide) (by decide) (by decide))) rfl rfl rfl rfl rfl rfl rfl rfl)
              · skip
                refine V.iload_n (pc := 104) 3 dX8_likely_104 rfl ?_
                refine V.goto (pc := 105) 127 dX8_likely_105 (by decide) ?_
                refine V.iret (pc := 127) (z := (((upN (cX σ (-1)) (mX σ) k) : Nat) : Int)) dX8_likely_127 rfl ?_
                have e364 : k = 364 := by omega
                subst e364
                have hA : aLik (σ, m, hi 85, im) w = (tX σ).1 := by
                  unfold aLik
                  try dsimp only [gσ, gm, gg, gi]
                  refine (if_neg (by first | omega | assumption)).trans ?_
                  refine (if_neg (by first | omega | assumption)).trans ?_
                  refine (if_neg (by first | omega | assumption)).trans ?_
                  refine (if_pos (by first | omega | assumption)).trans ?_
                  rfl
                rw [hA] at hq
                rw [← ux1] at hq
                exact hq _ _ (by repeat (first | exact gr0 | refine gr1 (by decide) ?_ | refine gr2 (by decide) ?_)) (RM_up (hl := hl) hC hm hm2 hgr k0 k1 k2 k3 (hgd 8 (by decide) (by decide) (by decide)) (hgd 9 (by decide) (by decide) (by decide)) (hgd 11 (by decide) (by decide) (by decide)) (hgd 13 (by decide) (by decide) (by decide)) rfl rfl rfl rfl rfl rfl rfl rfl)
            · skip
              refine V.aload_n (pc := 67) 0 dX8_likely_67 rfl ?_
              refine V.iload (pc := 68) 5 dX8_likely_68 rfl ?_
              refine V.callV (pc := 70) (e1 := eX8_costOf) (o := 77) (c := 8) 1 [vI ((k : Nat) : Int)] [] mfX8_costOf slX8_costOf mlX8_184 dX8_likely_70 (kS_77) (by decide) rfl rfl rfl (Nat.le_of_ble_eq_true rfl) ⟨by decide, by decide, by decide, by decide⟩ ?_
              refine c_X8_costOf (upR (upR (upR (upR (upR (upR hi 88 f88) 79 f79) 78 f78) 87 f87) 86 f86) 77 f77) (upR hl 89 f89) (cX σ (-1)) (BdH_fin hwf) (fun v hv => (hcw v hv).1) k (by omega) _ ?_
              refine V.qI (pc := 70) rfl rfl ?_
              refine V.iload_n (pc := 73) 2 dX8_likely_73 rfl ?_
              refine V.icmp_ne (pc := 74) 93 dX8_likely_74 (by decide) (fun h74 => ?_) (fun h74 => ?_)
              · have hce : ¬ cX σ (-1) k = mX σ := fun q => h74 (by rw [q, hle]; exact nvr_y hml)
                refine V.iinc (pc := 93) (r := ((k + 1 : Nat) : Int)) 5 dX8_likely_93 rfl (w32_of (by omega) (by omega) (by omega)) (by decide) (ls' := [(5, vI ((k + 1 : Nat) : Int)), (0, vR 77), (1, vI w), (2, vI (lcF (cX σ (-1)) 364)), (3, vI (((upN (cX σ (-1)) (mX σ) k) : Nat) : Int)), (4, vI (upF (cX σ (-1)) (mX σ) k))]) rfl ?_
                refine V.goto (pc := 96) 59 dX8_likely_96 (by decide) ?_
                refine V.locs [1, 2, 3, 4, 5, 0] (ls' := [(0, vR 77), (1, vI w), (2, vI (lcF (cX σ (-1)) 364)), (3, vI (((upN (cX σ (-1)) (mX σ) k) : Nat) : Int)), (4, vI (upF (cX σ (-1)) (mX σ) k)), (5, vI ((k + 1 : Nat) : Int))]) rfl ?_
                have e1 : upN (cX σ (-1)) (mX σ) (k + 1) = (upN (cX σ (-1)) (mX σ) k) := by rw [upN_s, if_neg hce]
                have e2 : upF (cX σ (-1)) (mX σ) (k + 1) = (upF (cX σ (-1)) (mX σ) k) := by rw [upF_s, if_neg (fun q => hce q.1)]
                rw [← e1, ← e2]
                exact ih59 (k + 1) (by omega) (by omega)
              · have hce : cX σ (-1) k = mX σ := by have hh : nvr (cX σ (-1) k) = mX σ := (by omega); exact (nvr_0 (by omega)).2.symm.trans hh
                refine V.iload_n (pc := 77) 3 dX8_likely_77 rfl ?_
                refine V.if_ne (pc := 78) 86 dX8_likely_78 (by decide) (fun h78 => ?_) (fun h78 => ?_)
                · skip
                  refine V.iload (pc := 86) 4 dX8_likely_86 rfl ?_
                  refine V.istore (pc := 88) (i := 4) dX8_likely_88 (by decide) (ls' := [(4, vI (upF (cX σ (-1)) (mX σ) k)), (0, vR 77), (1, vI w), (2, vI (lcF (cX σ (-1)) 364)), (3, vI (((upN (cX σ (-1)) (mX σ) k) : Nat) : Int)), (5, vI ((k : Nat) : Int))]) rfl ?_
                  refine V.iinc (pc := 90) (r := ((((upN (cX σ (-1)) (mX σ) k) + 1) : Nat) : Int)) 4 dX8_likely_90 rfl (w32_of (by omega) (by omega) (by omega)) (by decide) (ls' := [(3, vI ((((upN (cX σ (-1)) (mX σ) k) + 1) : Nat) : Int)), (4, vI (upF (cX σ (-1)) (mX σ) k)), (0, vR 77), (1, vI w), (2, vI (lcF (cX σ (-1)) 364)), (5, vI ((k : Nat) : Int))]) rfl ?_
                  refine V.iinc (pc := 93) (r := ((k + 1 : Nat) : Int)) 5 dX8_likely_93 rfl (w32_of (by omega) (by omega) (by omega)) (by decide) (ls' := [(5, vI ((k + 1 : Nat) : Int)), (3, vI ((((upN (cX σ (-1)) (mX σ) k) + 1) : Nat) : Int)), (4, vI (upF (cX σ (-1)) (mX σ) k)), (0, vR 77), (1, vI w), (2, vI (lcF (cX σ (-1)) 364))]) rfl ?_
                  refine V.goto (pc := 96) 59 dX8_likely_96 (by decide) ?_
                  refine V.locs [3, 4, 5, 1, 2, 0] (ls' := [(0, vR 77), (1, vI w), (2, vI (lcF (cX σ (-1)) 364)), (3, vI ((((upN (cX σ (-1)) (mX σ) k) + 1) : Nat) : Int)), (4, vI (upF (cX σ (-1)) (mX σ) k)), (5, vI ((k + 1 : Nat) : Int))]) rfl ?_
                  have e1 : upN (cX σ (-1)) (mX σ) (k + 1) = (upN (cX σ (-1)) (mX σ) k) + 1 := by rw [upN_s, if_pos hce]
                  have e2 : upF (cX σ (-1)) (mX σ) (k + 1) = (upF (cX σ (-1)) (mX σ) k) := by rw [upF_s, if_neg (fun q => by have := q.2; omega)]
                  rw [← e1, ← e2]
                  exact ih59 (k + 1) (by omega) (by omega)
                · skip
                  refine V.iload (pc := 81) 5 dX8_likely_81 rfl ?_
                  refine V.goto (pc := 83) 88 dX8_likely_83 (by decide) ?_
                  refine V.istore (pc := 88) (i := 4) dX8_likely_88 (by decide) (ls' := [(4, vI ((k : Nat) : Int)), (0, vR 77), (1, vI w), (2, vI (lcF (cX σ (-1)) 364)), (3, vI (((upN (cX σ (-1)) (mX σ) k) : Nat) : Int)), (5, vI ((k : Nat) : Int))]) rfl ?_
                  refine V.iinc (pc := 90) (r := ((((upN (cX σ (-1)) (mX σ) k) + 1) : Nat) : Int)) 4 dX8_likely_90 rfl (w32_of (by omega) (by omega) (by omega)) (by decide) (ls' := [(3, vI ((((upN (cX σ (-1)) (mX σ) k) + 1) : Nat) : Int)), (4, vI ((k : Nat) : Int)), (0, vR 77), (1, vI w), (2, vI (lcF (cX σ (-1)) 364)), (5, vI ((k : Nat) : Int))]) rfl ?_
                  refine V.iinc (pc := 93) (r := ((k + 1 : Nat) : Int)) 5 dX8_likely_93 rfl (w32_of (by omega) (by omega) (by omega)) (by decide) (ls' := [(5, vI ((k + 1 : Nat) : Int)), (3, vI ((((upN (cX σ (-1)) (mX σ) k) + 1) : Nat) : Int)), (4, vI ((k : Nat) : Int)), (0, vR 77), (1, vI w), (2, vI (lcF (cX σ (-1)) 364))]) rfl ?_
                  refine V.goto (pc := 96) 59 dX8_likely_96 (by decide) ?_
                  refine V.locs [3, 4, 5, 1, 2, 0] (ls' := [(0, vR 77), (1, vI w), (2, vI (lcF (cX σ (-1)) 364)), (3, vI ((((upN (cX σ (-1)) (mX σ) k) + 1) : Nat) : Int)), (4, vI ((k : Nat) : Int)), (5, vI ((k + 1 : Nat) : Int))]) rfl ?_
                  have e1 : upN (cX σ (-1)) (mX σ) (k + 1) = (upN (cX σ (-1)) (mX σ) k) + 1 := by rw [upN_s, if_pos hce]
                  have e2 : upF (cX σ (-1)) (mX σ) (k + 1) = ((k : Nat) : Int) := by rw [upF_s, if_pos ⟨hce, by omega⟩]
                  rw [← e1, ← e2]
                  exact ih59 (k + 1) (by omega) (by omega)
        refine V.locs [4, 5, 3, 2, 1, 0] (ls' := [(0, vR 77), (1, vI w), (2, vI (lcF (cX σ (-1)) 364)), (3, vI 0), (4, vI (-6)), (5, vI 0)]) rfl ?_
        exact lp59 _ 0 (by omega) (Nat.lt_succ_self _)
      · skip
        refine V.iload_n (pc := 48) 0 dX8_likely_48 rfl ?_
        refine V.iret (pc := 49) (z := (lcF (cX σ (-1)) 364)) dX8_likely_49 rfl ?_
        by_cases hmm : mX σ < 1000
        · have hle := hlx.1 hmm
          have hA : aLik (σ, m, hi 85, im) w = mX σ := by
            unfold aLik
            try dsimp only [gσ, gm, gg, gi]
            refine (if_neg (by first | omega | assumption)).trans ?_
            refine (if_neg (by first | omega | assumption)).trans ?_
            refine (if_pos (by first | omega | assumption)).trans ?_
            rfl
          rw [hA] at hq
          rw [← hle] at hq
          exact hq _ _ (by repeat (first | exact gr0 | refine gr1 (by decide) ?_ | refine gr2 (by decide) ?_)) (RM_up (hl := hl) hC hm hm2 hgr k0 k1 k2 k3 (hgd 8 (by decide) (by decide) (by decide)) (hgd 9 (by decide) (by decide) (by decide)) (hgd 11 (by decide) (by decide) (by decide)) (hgd 13 (by decide) (by decide) (by decide)) rfl rfl rfl rfl rfl rfl rfl rfl)
        · have hle := hlx.2 hmm
          have hm1 : mX σ = 1000 := by omega
          have hA : aLik (σ, m, hi 85, im) w = -6 := by
            unfold aLik
            try dsimp only [gσ, gm, gg, gi]
            refine (if_neg (by first | omega | assumption)).trans ?_
            refine (if_pos (by first | omega | assumption)).trans ?_
            rfl
          rw [hA] at hq
          rw [← hle] at hq
          exact hq _ _ (by repeat (first | exact gr0 | refine gr1 (by decide) ?_ | refine gr2 (by decide) ?_)) (RM_up (hl := hl) hC hm hm2 hgr k0 k1 k2 k3 (hgd 8 (by decide) (by decide) (by decide)) (hgd 9 (by decide) (by decide) (by decide)) (hgd 11 (by decide) (by decide) (by decide)) (hgd 13 (by decide) (by decide) (by decide)) rfl rfl rfl rfl rfl rfl rfl rfl)
  · skip
    refine V.qI (pc := 6) rfl rfl ?_
    refine V.if_ne (pc := 9) 29 dX8_likely_9 (by decide) (fun hc => by exact absurd hc (by decide)) (fun h9 => ?_)
    refine V.iload_n (pc := 12) 1 dX8_likely_12 rfl ?_
    refine V.i2l (pc := 13) dX8_likely_13 ?_
    refine V.ldc2 (pc := 14) (z := 10) clX8_192 dX8_likely_14 ⟨by decide, by decide⟩ ?_
    refine V.ldc2 (pc := 17) (z := 14) clX8_194 dX8_likely_17 ⟨by decide, by decide⟩ ?_
    refine V.callS (pc := 20) (e1 := eX8_in) 3 [vL w, vL 10, vL 14] [] mfX8_in slX8_in mlX8_72 dX8_likely_20 rfl rfl (Nat.le_of_ble_eq_true rfl) ⟨by decide, by decide, by decide, by decide⟩ ?_
    refine c_X8_in KW hi hl w 10 14 _ (fun hinb => ?_) (fun hinb => ?_)
    · skip
      refine V.qI (pc := 20) rfl rfl ?_
      refine V.if_ne (pc := 23) 29 dX8_likely_23 (by decide) (fun h23 => ?_) (fun hc => by exact absurd hc (by decide))
      refine V.aload_n (pc := 29) 0 dX8_likely_29 rfl ?_
      refine V.bipush (pc := 30) (z := (-6)) dX8_likely_30 (by decide +kernel) ⟨by decide, by decide⟩ ?_
      refine V.callV (pc := 32) (e1 := eX8_findCosts) (o := 77) (c := 8) 1 [vI (-6)] [] mfX8_findCosts slX8_findCosts mlX8_187 dX8_likely_32 (kS_77) (by decide) rfl rfl rfl (Nat.le_of_ble_eq_true rfl) ⟨by decide, by decide, by decide, by decide⟩ ?_
      refine c_X8_findCosts hi hl σ hC (-6) _ (fun f77 f86 f87 f78 f79 f88 f89 hgd hRW => ?_)
      have hcw : CW f88 f89 σ (-1) := CW_6 (CW_mk hwf hRW)
      refine V.qV (pc := 32) rfl rfl ?_
      refine V.hieq (hi' := (upR (upR (upR (upR (upR (upR hi 88 f88) 79 f79) 78 f78) 87 f87) 86 f86) 77 f77)) ((upR_c ((upR_c ((upR_c ((upR_c ((upR_c r0).trans (rs (by decide) r0))).trans (rs (by decide) (rs (by decide) r0)))).trans (rs (by decide) (rs (by decide) (rs (by decide) r0))))).trans (rs (by decide) (rs (by decide) (rs (by decide) (rs (by decide) r0)))))).trans (rs (by decide) (rs (by decide) (rs (by decide) (rs (by decide) (rs (by decide) r0)))))) ?_
      refine V.aload_n (pc := 35) 0 dX8_likely_35 rfl ?_
      refine V.callV (pc := 36) (e1 := eX8_leastCost) (o := 77) (c := 8) 0 [] [] mfX8_leastCost slX8_leastCost mlX8_196 dX8_likely_36 (kS_77) (by decide) rfl rfl rfl (Nat.le_of_ble_eq_true rfl) ⟨by decide, by decide, by decide, by decide⟩ ?_
      refine c_X8_leastCost (upR (upR (upR (upR (upR (upR hi 88 f88) 79 f79) 78 f78) 87 f87) 86 f86) 77 f77) (upR hl 89 f89) (cX σ (-1)) (BdH_fin hwf) (fun v hv => (hcw v hv).1) _ ?_
      refine V.qI (pc := 36) rfl rfl ?_
      have hmb := mX_b hwf
      have hlx := lcX hwf
      refine V.istore_n (pc := 39) (i := 2) dX8_likely_39 rfl (by decide) (ls' := [(2, vI (lcF (cX σ (-1)) 364)), (0, vR 77), (1, vI w)]) rfl ?_
      refine V.iload_n (pc := 40) 0 dX8_likely_40 rfl ?_
      refine V.if_lt (pc := 41) 48 dX8_likely_41 (by decide) (fun h41 => ?_) (fun h41 => ?_)
      · have hml : ¬ mX σ < 1000 := fun q => by have := hlx.1 q; omega
        have hm1 : mX σ = 1000 := by omega
        refine V.iload_n (pc := 48) 0 dX8_likely_48 rfl ?_
        refine V.iret (pc := 49) (z := (lcF (cX σ (-1)) 364)) dX8_likely_49 rfl ?_
        by_cases hmm : mX σ < 1000
        · have hle := hlx.1 hmm
          have hA : aLik (σ, m, hi 85, im) w = mX σ := by
            unfold aLik
            try dsimp only [gσ, gm, gg, gi]
            refine (if_neg (by first | omega | assumption)).trans ?_
            refine (if_neg (by first | omega | assumption)).trans ?_
            refine (if_pos (by first | omega | assumption)).trans ?_
            rfl
          rw [hA] at hq
          rw [← hle] at hq
          exact hq _ _ (by repeat (first | exact gr0 | refine gr1 (by decide) ?_ | refine gr2 (by decide) ?_)) (RM_up (hl := hl) hC hm hm2 hgr k0 k1 k2 k3 (hgd 8 (by decide) (by decide) (by decide)) (hgd 9 (by decide) (by decide) (by decide)) (hgd 11 (by decide) (by decide) (by decide)) (hgd 13 (by decide) (by decide) (by decide)) rfl rfl rfl rfl rfl rfl rfl rfl)
        · have hle := hlx.2 hmm
          have hm1 : mX σ = 1000 := by omega
          have hA : aLik (σ, m, hi 85, im) w = -6 := by
            unfold aLik
            try dsimp only [gσ, gm, gg, gi]
            refine (if_neg (by first | omega | assumption)).trans ?_
            refine (if_pos (by first | omega | assumption)).trans ?_
            rfl
          rw [hA] at hq
          rw [← hle] at hq
          exact hq _ _ (by repeat (first | exact gr0 | refine gr1 (by decide) ?_ | refine gr2 (by decide) ?_)) (RM_up (hl := hl) hC hm hm2 hgr k0 k1 k2 k3 (hgd 8 (by decide) (by decide) (by decide)) (hgd 9 (by decide) (by decide) (by decide)) (hgd 11 (by decide) (by decide) (by decide)) (hgd 13 (by decide) (by decide) (by decide)) rfl rfl rfl rfl rfl rfl rfl rfl)
      · have hml : mX σ < 1000 := by by_cases q : mX σ < 1000; { exact q }; { have := hlx.2 q; omega }
        have hle := hlx.1 hml
        obtain ⟨ux1, ux2, _⟩ := up_X hml
        have htf := tX_f hml
        refine V.iload_n (pc := 44) 2 dX8_likely_44 rfl ?_
        refine V.if_ne (pc := 45) 50 dX8_likely_45 (by decide) (fun h45 => ?_) (fun h45 => ?_)
        · skip
          refine V.iconst (pc := 50) (z := 0) dX8_likely_50 rfl ⟨by decide, by decide⟩ ?_
          refine V.istore_n (pc := 51) (i := 3) dX8_likely_51 rfl (by decide) (ls' := [(3, vI 0), (2, vI (lcF (cX σ (-1)) 364)), (0, vR 77), (1, vI w)]) rfl ?_
          refine V.bipush (pc := 52) (z := (-6)) dX8_likely_52 (by decide +kernel) ⟨by decide, by decide⟩ ?_
          refine V.istore (pc := 54) (i := 4) dX8_likely_54 (by decide) (ls' := [(4, vI (-6)), (3, vI 0), (2, vI (lcF (cX σ (-1)) 364)), (0, vR 77), (1, vI w)]) rfl ?_
          refine V.iconst (pc := 56) (z := 0) dX8_likely_56 rfl ⟨by decide, by decide⟩ ?_
          refine V.istore (pc := 57) (i := 5) dX8_likely_57 (by decide) (ls' := [(5, vI 0), (4, vI (-6)), (3, vI 0), (2, vI (lcF (cX σ (-1)) 364)), (0, vR 77), (1, vI w)]) rfl ?_
          have lp59 : ∀ (fu59 : Nat) (k : Nat), (k ≤ 364) → 364 - k < fu59 → V eX8_likely none KW 59 [(0, vR 77), (1, vI w), (2, vI (lcF (cX σ (-1)) 364)), (3, vI (((upN (cX σ (-1)) (mX σ) k) : Nat) : Int)), (4, vI (upF (cX σ (-1)) (mX σ) k)), (5, vI ((k : Nat) : Int))] [] (upR (upR (upR (upR (upR (upR hi 88 f88) 79 f79) 78 f78) 87 f87) 86 f86) 77 f77) (upR hl 89 f89) 0 0 Q := by
            intro fu59
            induction fu59 with
            | zero => intro k hk hm59; exact absurd hm59 (Nat.not_lt_zero _)
            | succ fu59 ih59 =>
              intro k hk hm59
              have hul := upN_le (cX σ (-1)) (mX σ) k
              refine V.iload (pc := 59) 5 dX8_likely_59 rfl ?_
              refine V.sipush (pc := 61) (z := 364) dX8_likely_61 (by decide +kernel) ⟨by decide, by decide⟩ ?_
              refine V.icmp_ge (pc := 64) 99 dX8_likely_64 (by decide) (fun h64 => ?_) (fun h64 => ?_)
              · skip
                refine V.iload_n (pc := 99) 1 dX8_likely_99 rfl ?_
                refine V.iconst (pc := 100) (z := 1) dX8_likely_100 rfl ⟨by decide, by decide⟩ ?_
                refine V.icmp_ne (pc := 101) 108 dX8_likely_101 (by decide) (fun h101 => ?_) (fun h101 => ?_)
                · skip
                  have e364 : k = 364 := by omega
                  subst e364
                  refine V.aload_n (pc := 108) 0 dX8_likely_108 rfl ?_
                  refine V.iload (pc := 109) 4 dX8_likely_109 rfl ?_
                  refine V.top (v' := vI (encM (some (tX σ).2.1.toNat))) (congrArg vI (ux2.trans (Int.toNat_of_nonneg htf.1).symm)) ?_
                  refine V.iload_n (pc := 111) 1 dX8_likely_111 rfl ?_
                  refine V.iconst (pc := 112) (z := 2) dX8_likely_112 rfl ⟨by decide, by decide⟩ ?_
                  refine V.icmp_ne (pc := 113) 120 dX8_likely_113 (by decide) (fun h113 => ?_) (fun h113 => ?_)
                  · skip
                    refine V.iload_n (pc := 120) 1 dX8_likely_120 rfl ?_
                    refine V.bipush (pc := 121) (z := 10) dX8_likely_121 (by decide +kernel) ⟨by decide, by decide⟩ ?_
                    refine V.isub (pc := 123) ((w - 10)) dX8_likely_123 (w32_of (by omega) (by omega) (by omega)) ?_
                    refine V.callV (pc := 124) (e1 := eX8_signAt) (o := 77) (c := 8) 2 [vI (encM (some (tX σ).2.1.toNat)), vI (w - 10)] [] mfX8_signAt slX8_signAt mlX8_168 dX8_likely_124 (kS_77) (by decide) rfl rfl rfl (Nat.le_of_ble_eq_true rfl) ⟨by decide, by decide, by decide, by decide⟩ ?_
                    refine c_X8_signAt (upR (upR (upR (upR (upR (upR hi 88 f88) 79 f79) 78 f78) 87 f87) 86 f86) 77 f77) (upR hl 89 f89) (some (tX σ).2.1.toNat) ((fun v hv => by cases hv; omega)) (w - 10) (by omega) _ (fun fs gs hfs => ?_)
                    refine V.qI (pc := 124) rfl rfl ?_
                    refine V.hieq (hi' := (upR (upR (upR (upR (upR (upR hi 88 f88) 79 f79) 78 gs) 87 f87) 86 f86) 77 fs)) ((upR_c r1).trans (rs (by decide) (rs (by decide) (rs (by decide) r1)))) ?_
                    refine V.iret (pc := 127) (z := (wordO (encC (some (tX σ).2.1.toNat)) (w - 10))) dX8_likely_127 rfl ?_
                    have hA : aLik (σ, m, hi 85, im) w = wordO (encC (some (tX σ).2.1.toNat)) (w - 10) := by
                      unfold aLik
                      try dsimp only [gσ, gm, gg, gi]
                      refine (if_neg (by first | omega | assumption)).trans ?_
                      refine (if_neg (by first | omega | assumption)).trans ?_
                      refine (if_neg (by first | omega | assumption)).trans ?_
                      refine (if_neg (by first | omega | assumption)).trans ?_
                      refine (if_neg (by first | omega | assumption)).trans ?_
                      exact wordO_s.symm
                    rw [hA] at hq
                    exact hq _ _ (by repeat (first | exact gr0 | refine gr1 (by decide) ?_ | refine gr2 (by decide) ?_)) (RM_up (hl := hl) hC hm hm2 hgr k0 k1 k2 k3 ((hfs 8 (by decide)).trans (hgd 8 (by decide) (by decide) (by decide))) ((hfs 9 (by decide)).trans (hgd 9 (by decide) (by decide) (by decide))) ((hfs 11 (by decide)).trans (hgd 11 (by decide) (by decide) (by decide))) ((hfs 13 (by decide)).trans (hgd 13 (by decide) (by decide) (by decide))) rfl rfl rfl rfl rfl rfl rfl rfl)
                  · skip
                    refine V.iconst (pc := 116) (z := (-1)) dX8_likely_116 rfl ⟨by decide, by decide⟩ ?_
                    refine V.goto (pc := 117) 124 dX8_likely_117 (by decide) ?_
                    refine V.callV (pc := 124) (e1 := eX8_signAt) (o := 77) (c := 8) 2 [vI (encM (some (tX σ).2.1.toNat)), vI (-1)] [] mfX8_signAt slX8_signAt mlX8_168 dX8_likely_124 (kS_77) (by decide) rfl rfl rfl (Nat.le_of_ble_eq_true rfl) ⟨by decide, by decide, by decide, by decide⟩ ?_
                    refine c_X8_signAt (upR (upR (upR (upR (upR (upR hi 88 f88) 79 f79) 78 f78) 87 f87) 86 f86) 77 f77) (upR hl 89 f89) (some (tX σ).2.1.toNat) ((fun v hv => by cases hv; omega)) (-1) (by omega) _ (fun fs gs hfs => ?_)
                    refine V.qI (pc := 124) rfl rfl ?_
                    refine V.hieq (hi' := (upR (upR (upR (upR (upR (upR hi 88 f88) 79 f79) 78 gs) 87 f87) 86 f86) 77 fs)) ((upR_c r1).trans (rs (by decide) (rs (by decide) (rs (by decide) r1)))) ?_
                    refine V.iret (pc := 127) (z := (wordO (encC (some (tX σ).2.1.toNat)) (-1))) dX8_likely_127 rfl ?_
                    have hA : aLik (σ, m, hi 85, im) w = wordO (encC (some (tX σ).2.1.toNat)) (-1) := by
                      unfold aLik
                      try dsimp only [gσ, gm, gg, gi]
                      refine (if_neg (by first | omega | assumption)).trans ?_
                      refine (if_neg (by first | omega | assumption)).trans ?_
                      refine (if_neg (by first | omega | assumption)).trans ?_
                      refine (if_neg (by first | omega | assumption)).trans ?_
                      refine (if_pos (by first | omega | assumption)).trans ?_
                      exact wordO_s.symm
                    rw [hA] at hq
                    exact hq _ _ (by repeat (first | exact gr0 | refine gr1 (by decide) ?_ | refine gr2 (by decide) ?_)) (RM_up (hl := hl) hC hm hm2 hgr k0 k1 k2 k3 ((hfs 8 (by decide)).trans (hgd 8 (by decide) (by decide) (by decide))) ((hfs 9 (by decide)).trans (hgd 9 (by decide) (by decide) (by decide))) ((hfs 11 (by decide)).trans (hgd 11 (by decide) (by decide) (by decide))) ((hfs 13 (by decide)).trans (hgd 13 (by decide) (by decide) (by decide))) rfl rfl rfl rfl rfl rfl rfl rfl)
                · skip
                  refine V.iload_n (pc := 104) 3 dX8_likely_104 rfl ?_
                  refine V.goto (pc := 105) 127 dX8_likely_105 (by decide) ?_
                  refine V.iret (pc := 127) (z := (((upN (cX σ (-1)) (mX σ) k) : Nat) : Int)) dX8_likely_127 rfl ?_
                  have e364 : k = 364 := by omega
                  subst e364
                  have hA : aLik (σ, m, hi 85, im) w = (tX σ).1 := by
                    unfold aLik
                    try dsimp only [gσ, gm, gg, gi]
                    refine (if_neg (by first | omega | assumption)).trans ?_
                    refine (if_neg (by first | omega | assumption)).trans ?_
                    refine (if_neg (by first | omega | assumption)).trans ?_
                    refine (if_pos (by first | omega | assumption)).trans ?_
                    rfl
                  rw [hA] at hq
                  rw [← ux1] at hq
                  exact hq _ _ (by repeat (first | exact gr0 | refine gr1 (by decide) ?_ | refine gr2 (by decide) ?_)) (RM_up (hl := hl) hC hm hm2 hgr k0 k1 k2 k3 (hgd 8 (by decide) (by decide) (by decide)) (hgd 9 (by decide) (by decide) (by decide)) (hgd 11 (by decide) (by decide) (by decide)) (hgd 13 (by decide) (by decide) (by decide)) rfl rfl rfl rfl rfl rfl rfl rfl)
              · skip
                refine V.aload_n (pc := 67) 0 dX8_likely_67 rfl ?_
                refine V.iload (pc := 68) 5 dX8_likely_68 rfl ?_
                refine V.callV (pc := 70) (e1 := eX8_costOf) (o := 77) (c := 8) 1 [vI ((k : Nat) : Int)] [] mfX8_costOf slX8_costOf mlX8_184 dX8_likely_70 (kS_77) (by decide) rfl rfl rfl (Nat.le_of_ble_eq_true rfl) ⟨by decide, by decide, by decide, by decide⟩ ?_
                refine c_X8_costOf (upR (upR (upR (upR (upR (upR hi 88 f88) 79 f79) 78 f78) 87 f87) 86 f86) 77 f77) (upR hl 89 f89) (cX σ (-1)) (BdH_fin hwf) (fun v hv => (hcw v hv).1) k (by omega) _ ?_
                refine V.qI (pc := 70) rfl rfl ?_
                refine V.iload_n (pc := 73) 2 dX8_likely_73 rfl ?_
                refine V.icmp_ne (pc := 74) 93 dX8_likely_74 (by decide) (fun h74 => ?_) (fun h74 => ?_)
                · have hce : ¬ cX σ (-1) k = mX σ := fun q => h74 (by rw [q, hle]; exact nvr_y hml)
                  refine V.iinc (pc := 93) (r := ((k + 1 : Nat) : Int)) 5 dX8_likely_93 rfl (w32_of (by omega) (by omega) (by omega)) (by decide) (ls' := [(5, vI ((k + 1 : Nat) : Int)), (0, vR 77), (1, vI w), (2, vI (lcF (cX σ (-1)) 364)), (3, vI (((upN (cX σ (-1)) (mX σ) k) : Nat) : Int)), (4, vI (upF (cX σ (-1)) (mX σ) k))]) rfl ?_
                  refine V.goto (pc := 96) 59 dX8_likely_96 (by decide) ?_
                  refine V.locs [1, 2, 3, 4, 5, 0] (ls' := [(0, vR 77), (1, vI w), (2, vI (lcF (cX σ (-1)) 364)), (3, vI (((upN (cX σ (-1)) (mX σ) k) : Nat) : Int)), (4, vI (upF (cX σ (-1)) (mX σ) k)), (5, vI ((k + 1 : Nat) : Int))]) rfl ?_
                  have e1 : upN (cX σ (-1)) (mX σ) (k + 1) = (upN (cX σ (-1)) (mX σ) k) := by rw [upN_s, if_neg hce]
                  have e2 : upF (cX σ (-1)) (mX σ) (k + 1) = (upF (cX σ (-1)) (mX σ) k) := by rw [upF_s, if_neg (fun q => hce q.1)]
                  rw [← e1, ← e2]
                  exact ih59 (k + 1) (by omega) (by omega)
                · have hce : cX σ (-1) k = mX σ := by have hh : nvr (cX σ (-1) k) = mX σ := (by omega); exact (nvr_0 (by omega)).2.symm.trans hh
                  refine V.iload_n (pc := 77) 3 dX8_likely_77 rfl ?_
                  refine V.if_ne (pc := 78) 86 dX8_likely_78 (by decide) (fun h78 => ?_) (fun h78 => ?_)
                  · skip
                    refine V.iload (pc := 86) 4 dX8_likely_86 rfl ?_
                    refine V.istore (pc := 88) (i := 4) dX8_likely_88 (by decide) (ls' := [(4, vI (upF (cX σ (-1)) (mX σ) k)), (0, vR 77), (1, vI w), (2, vI (lcF (cX σ (-1)) 364)), (3, vI (((upN (cX σ (-1)) (mX σ) k) : Nat) : Int)), (5, vI ((k : Nat) : Int))]) rfl ?_
                    refine V.iinc (pc := 90) (r := ((((upN (cX σ (-1)) (mX σ) k) + 1) : Nat) : Int)) 4 dX8_likely_90 rfl (w32_of (by omega) (by omega) (by omega)) (by decide) (ls' := [(3, vI ((((upN (cX σ (-1)) (mX σ) k) + 1) : Nat) : Int)), (4, vI (upF (cX σ (-1)) (mX σ) k)), (0, vR 77), (1, vI w), (2, vI (lcF (cX σ (-1)) 364)), (5, vI ((k : Nat) : Int))]) rfl ?_
                    refine V.iinc (pc := 93) (r := ((k + 1 : Nat) : Int)) 5 dX8_likely_93 rfl (w32_of (by omega) (by omega) (by omega)) (by decide) (ls' := [(5, vI ((k + 1 : Nat) : Int)), (3, vI ((((upN (cX σ (-1)) (mX σ) k) + 1) : Nat) : Int)), (4, vI (upF (cX σ (-1)) (mX σ) k)), (0, vR 77), (1, vI w), (2, vI (lcF (cX σ (-1)) 364))]) rfl ?_
                    refine V.goto (pc := 96) 59 dX8_likely_96 (by decide) ?_
                    refine V.locs [3, 4, 5, 1, 2, 0] (ls' := [(0, vR 77), (1, vI w), (2, vI (lcF (cX σ (-1)) 364)), (3, vI ((((upN (cX σ (-1)) (mX σ) k) + 1) : Nat) : Int)), (4, vI (upF (cX σ (-1)) (mX σ) k)), (5, vI ((k + 1 : Nat) : Int))]) rfl ?_
                    have e1 : upN (cX σ (-1)) (mX σ) (k + 1) = (upN (cX σ (-1)) (mX σ) k) + 1 := by rw [upN_s, if_pos hce]
                    have e2 : upF (cX σ (-1)) (mX σ) (k + 1) = (upF (cX σ (-1)) (mX σ) k) := by rw [upF_s, if_neg (fun q => by have := q.2; omega)]
                    rw [← e1, ← e2]
                    exact ih59 (k + 1) (by omega) (by omega)
                  · skip
                    refine V.iload (pc := 81) 5 dX8_likely_81 rfl ?_
                    refine V.goto (pc := 83) 88 dX8_likely_83 (by decide) ?_
                    refine V.istore (pc := 88) (i := 4) dX8_likely_88 (by decide) (ls' := [(4, vI ((k : Nat) : Int)), (0, vR 77), (1, vI w), (2, vI (lcF (cX σ (-1)) 364)), (3, vI (((upN (cX σ (-1)) (mX σ) k) : Nat) : Int)), (5, vI ((k : Nat) : Int))]) rfl ?_
                    refine V.iinc (pc := 90) (r := ((((upN (cX σ (-1)) (mX σ) k) + 1) : Nat) : Int)) 4 dX8_likely_90 rfl (w32_of (by omega) (by omega) (by omega)) (by decide) (ls' := [(3, vI ((((upN (cX σ (-1)) (mX σ) k) + 1) : Nat) : Int)), (4, vI ((k : Nat) : Int)), (0, vR 77), (1, vI w), (2, vI (lcF (cX σ (-1)) 364)), (5, vI ((k : Nat) : Int))]) rfl ?_
                    refine V.iinc (pc := 93) (r := ((k + 1 : Nat) : Int)) 5 dX8_likely_93 rfl (w32_of (by omega) (by omega) (by omega)) (by decide) (ls' := [(5, vI ((k + 1 : Nat) : Int)), (3, vI ((((upN (cX σ (-1)) (mX σ) k) + 1) : Nat) : Int)), (4, vI ((k : Nat) : Int)), (0, vR 77), (1, vI w), (2, vI (lcF (cX σ (-1)) 364))]) rfl ?_
                    refine V.goto (pc := 96) 59 dX8_likely_96 (by decide) ?_
                    refine V.locs [3, 4, 5, 1, 2, 0] (ls' := [(0, vR 77), (1, vI w), (2, vI (lcF (cX σ (-1)) 364)), (3, vI ((((upN (cX σ (-1)) (mX σ) k) + 1) : Nat) : Int)), (4, vI ((k : Nat) : Int)), (5, vI ((k + 1 : Nat) : Int))]) rfl ?_
                    have e1 : upN (cX σ (-1)) (mX σ) (k + 1) = (upN (cX σ (-1)) (mX σ) k) + 1 := by rw [upN_s, if_pos hce]
                    have e2 : upF (cX σ (-1)) (mX σ) (k + 1) = ((k : Nat) : Int) := by rw [upF_s, if_pos ⟨hce, by omega⟩]
                    rw [← e1, ← e2]
                    exact ih59 (k + 1) (by omega) (by omega)
          refine V.locs [4, 5, 3, 2, 1, 0] (ls' := [(0, vR 77), (1, vI w), (2, vI (lcF (cX σ (-1)) 364)), (3, vI 0), (4, vI (-6)), (5, vI 0)]) rfl ?_
          exact lp59 _ 0 (by omega) (Nat.lt_succ_self _)
        · skip
          refine V.iload_n (pc := 48) 0 dX8_likely_48 rfl ?_
          refine V.iret (pc := 49) (z := (lcF (cX σ (-1)) 364)) dX8_likely_49 rfl ?_
          by_cases hmm : mX σ < 1000
          · have hle := hlx.1 hmm
            have hA : aLik (σ, m, hi 85, im) w = mX σ := by
              unfold aLik
              try dsimp only [gσ, gm, gg, gi]
              refine (if_neg (by first | omega | assumption)).trans ?_
              refine (if_neg (by first | omega | assumption)).trans ?_
              refine (if_pos (by first | omega | assumption)).trans ?_
              rfl
            rw [hA] at hq
            rw [← hle] at hq
            exact hq _ _ (by repeat (first | exact gr0 | refine gr1 (by decide) ?_ | refine gr2 (by decide) ?_)) (RM_up (hl := hl) hC hm hm2 hgr k0 k1 k2 k3 (hgd 8 (by decide) (by decide) (by decide)) (hgd 9 (by decide) (by decide) (by decide)) (hgd 11 (by decide) (by decide) (by decide)) (hgd 13 (by decide) (by decide) (by decide)) rfl rfl rfl rfl rfl rfl rfl rfl)
          · have hle := hlx.2 hmm
            have hm1 : mX σ = 1000 := by omega
            have hA : aLik (σ, m, hi 85, im) w = -6 := by
              unfold aLik
              try dsimp only [gσ, gm, gg, gi]
              refine (if_neg (by first | omega | assumption)).trans ?_
              refine (if_pos (by first | omega | assumption)).trans ?_
              rfl
            rw [hA] at hq
            rw [← hle] at hq
            exact hq _ _ (by repeat (first | exact gr0 | refine gr1 (by decide) ?_ | refine gr2 (by decide) ?_)) (RM_up (hl := hl) hC hm hm2 hgr k0 k1 k2 k3 (hgd 8 (by decide) (by decide) (by decide)) (hgd 9 (by decide) (by decide) (by decide)) (hgd 11 (by decide) (by decide) (by decide)) (hgd 13 (by decide) (by decide) (by decide)) rfl rfl rfl rfl rfl rfl rfl rfl)
    · skip
      refine V.qI (pc := 20) rfl rfl ?_
      refine V.if_ne (pc := 23) 29 dX8_likely_23 (by decide) (fun hc => by exact absurd hc (by decide)) (fun h23 => ?_)
      refine V.bipush (pc := 26) (z := (-2)) dX8_likely_26 (by decide +kernel) ⟨by decide, by decide⟩ ?_
      refine V.iret (pc := 28) (z := (-2)) dX8_likely_28 rfl ?_
      have hA : aLik (σ, m, hi 85, im) w = -2 := by
        unfold aLik
        try dsimp only [gσ, gm, gg, gi]
        refine (if_pos (by first | omega | assumption)).trans ?_
        rfl
      rw [hA] at hq
      exact hq _ _ (by repeat (first | exact gr0 | refine gr1 (by decide) ?_ | refine gr2 (by decide) ?_)) hR

set_option maxRecDepth 100000 in
theorem c_X8_ways (hi hl : HI) (σ : SG) (m : Nat) (g : Nat → Int) (im : Nat → Option SG) (hR : RMo hi hl (σ, m, g, im))  (Q : QT) (hq : ∀ hi' hl' : HI, FrM hi hl hi' hl' → RMo hi' hl' (σ, m, g, im) → Q (some (vL (aWays (σ, m, g, im) ))) KW hi' hl') : Con eX8_ways [vR 77] KW hi hl Q := by
  refine Con.ofV (by decide +kernel) (Nat.le_of_ble_eq_true rfl) ?_
  show V eX8_ways none KW 0 [(0, vR 77)] [] hi hl 0 0 Q
  obtain ⟨hC, ⟨hm, hm2, hg5, hgr⟩, k0, k1, k2, k3⟩ := RM_o hR
  subst hg5
  have hwf := hC.1
  have hn16 := hwf.2.2.1
  have hbg := hwf.2.2.2.2.1
  have hsr := sayF_rng (hi 85) m
  
  refine V.aload_n (pc := 0) 0 dX8_ways_0 rfl ?_
  refine V.callV (pc := 1) (e1 := eX8_faultOfSaying) (o := 77) (c := 8) 0 [] [] mfX8_faultOfSaying slX8_faultOfSaying mlX8_135 dX8_ways_1 (kS_77) (by decide) rfl rfl rfl (Nat.le_of_ble_eq_true rfl) ⟨by decide, by decide, by decide, by decide⟩ ?_
  refine c_X8_faultOfSaying hi hl m hm hm2 _ ?_
  refine V.qI (pc := 1) rfl rfl ?_
  refine V.top (v' := vI (sayF (hi 85) m)) (rfl) ?_
  refine V.if_lt (pc := 4) 11 dX8_ways_4 (by decide) (fun h4 => ?_) (fun h4 => ?_)
  · have hsf : sayF (hi 85) m = -6 := by omega
    have hpv : padV (σ, m, hi 85, im) = (((f3 m + sayV (hi 85) m) : Nat) : Int) := padV_y hsf
    have hsl := padS_lt hsf
    refine V.aload_n (pc := 11) 0 dX8_ways_11 rfl ?_
    refine V.bipush (pc := 12) (z := (-6)) dX8_ways_12 (by decide +kernel) ⟨by decide, by decide⟩ ?_
    refine V.callV (pc := 14) (e1 := eX8_findCosts) (o := 77) (c := 8) 1 [vI (-6)] [] mfX8_findCosts slX8_findCosts mlX8_187 dX8_ways_14 (kS_77) (by decide) rfl rfl rfl (Nat.le_of_ble_eq_true rfl) ⟨by decide, by decide, by decide, by decide⟩ ?_
    refine c_X8_findCosts hi hl σ hC (-6) _ (fun f77 f86 f87 f78 f79 f88 f89 hgd hRW => ?_)
    have hcw : CW f88 f89 σ (-1) := CW_6 (CW_mk hwf hRW)
    refine V.qV (pc := 14) rfl rfl ?_
    refine V.hieq (hi' := (upR (upR (upR (upR (upR (upR hi 88 f88) 79 f79) 78 f78) 87 f87) 86 f86) 77 f77)) ((upR_c ((upR_c ((upR_c ((upR_c ((upR_c r0).trans (rs (by decide) r0))).trans (rs (by decide) (rs (by decide) r0)))).trans (rs (by decide) (rs (by decide) (rs (by decide) r0))))).trans (rs (by decide) (rs (by decide) (rs (by decide) (rs (by decide) r0)))))).trans (rs (by decide) (rs (by decide) (rs (by decide) (rs (by decide) (rs (by decide) r0)))))) ?_
    refine V.aload_n (pc := 17) 0 dX8_ways_17 rfl ?_
    refine V.aload_n (pc := 18) 0 dX8_ways_18 rfl ?_
    refine V.callV (pc := 19) (e1 := eX8_padSaying) (o := 77) (c := 8) 0 [] [vR 77] mfX8_padSaying slX8_padSaying mlX8_141 dX8_ways_19 (kS_77) (by decide) rfl rfl rfl (Nat.le_of_ble_eq_true rfl) ⟨by decide, by decide, by decide, by decide⟩ ?_
    refine c_X8_padSaying (upR (upR (upR (upR (upR (upR hi 88 f88) 79 f79) 78 f78) 87 f87) 86 f86) 77 f77) (upR hl 89 f89) m ((hgd 13 (by decide) (by decide) (by decide)).trans hm) hm2 hsf _ ?_
    refine V.qI (pc := 19) rfl rfl ?_
    refine V.aload_n (pc := 22) 0 dX8_ways_22 rfl ?_
    refine V.callV (pc := 23) (e1 := eX8_leastCost) (o := 77) (c := 8) 0 [] [vI ((f3 m + sayV (hi 85) m : Nat) : Int), vR 77] mfX8_leastCost slX8_leastCost mlX8_196 dX8_ways_23 (kS_77) (by decide) rfl rfl rfl (Nat.le_of_ble_eq_true rfl) ⟨by decide, by decide, by decide, by decide⟩ ?_
    refine c_X8_leastCost (upR (upR (upR (upR (upR (upR hi 88 f88) 79 f79) 78 f78) 87 f87) 86 f86) 77 f77) (upR hl 89 f89) (cX σ (-1)) (BdH_fin hwf) (fun v hv => (hcw v hv).1) _ ?_
    refine V.qI (pc := 23) rfl rfl ?_
    refine V.callV (pc := 26) (e1 := eX8_waysOf) (o := 77) (c := 8) 2 [vI ((f3 m + sayV (hi 85) m : Nat) : Int), vI (lcF (cX σ (-1)) 364)] [] mfX8_waysOf slX8_waysOf mlX8_201 dX8_ways_26 (kS_77) (by decide) rfl rfl rfl (Nat.le_of_ble_eq_true rfl) ⟨by decide, by decide, by decide, by decide⟩ ?_
    refine c_X8_waysOf (upR (upR (upR (upR (upR (upR hi 88 f88) 79 f79) 78 f78) 87 f87) 86 f86) 77 f77) (upR hl 89 f89) (cX σ (-1)) (BdH_fin hwf) (fun v hv => (hcw v hv).1) (nX σ (-1)) (fun v hv => (hcw v hv).2) (f3 m + sayV (hi 85) m) (by omega) (lcF (cX σ (-1)) 364) _ ?_
    refine V.qJ (pc := 26) rfl rfl ?_
    refine V.top (v' := vL (wX σ (f3 m + sayV (hi 85) m))) (congrArg vL (wvX hwf hsl)) ?_
    refine V.lret (pc := 29) (z := (wX σ (f3 m + sayV (hi 85) m))) dX8_ways_29 rfl ?_
    have hA : aWays (σ, m, hi 85, im)  = wX σ (f3 m + sayV (hi 85) m) := by
      unfold aWays
      try dsimp only [gσ, gm, gg, gi]
      rw [hpv]
      refine (if_neg (by first | omega | assumption)).trans ?_
      rfl
    rw [hA] at hq
    exact hq _ _ (by repeat (first | exact gr0 | refine gr1 (by decide) ?_ | refine gr2 (by decide) ?_)) (RM_up (hl := hl) hC hm hm2 hgr k0 k1 k2 k3 (hgd 8 (by decide) (by decide) (by decide)) (hgd 9 (by decide) (by decide) (by decide)) (hgd 11 (by decide) (by decide) (by decide)) (hgd 13 (by decide) (by decide) (by decide)) rfl rfl rfl rfl rfl rfl rfl rfl)
  · have hsf : sayF (hi 85) m ≠ -6 := by omega
    have hpv : padV (σ, m, hi 85, im) = -1 := padV_n hsf
    refine V.ldc2 (pc := 7) (z := (-1000000000000000005)) clX8_199 dX8_ways_7 ⟨by decide, by decide⟩ ?_
    refine V.lret (pc := 10) (z := (-1000000000000000005)) dX8_ways_10 rfl ?_
    have hA : aWays (σ, m, hi 85, im)  = -1000000000000000005 := by
      unfold aWays
      try dsimp only [gσ, gm, gg, gi]
      refine (if_pos (by first | omega | assumption)).trans ?_
      rfl
    rw [hA] at hq
    exact hq _ _ (by repeat (first | exact gr0 | refine gr1 (by decide) ?_ | refine gr2 (by decide) ?_)) hR

set_option maxRecDepth 100000 in
theorem c_X8_odds (hi hl : HI) (σ : SG) (m : Nat) (g : Nat → Int) (im : Nat → Option SG) (hR : RMo hi hl (σ, m, g, im)) (p : Int) (Q : QT) (hq : ∀ hi' hl' : HI, FrM hi hl hi' hl' → RMo hi' hl' (σ, m, g, im) → Q (some (vL (aOdds (σ, m, g, im) p))) KW hi' hl') : Con eX8_odds [vR 77, vI p] KW hi hl Q := by
  refine Con.ofV (by decide +kernel) (Nat.le_of_ble_eq_true rfl) ?_
  show V eX8_odds none KW 0 [(0, vR 77), (1, vI p)] [] hi hl 0 0 Q
  obtain ⟨hC, ⟨hm, hm2, hg5, hgr⟩, k0, k1, k2, k3⟩ := RM_o hR
  subst hg5
  have hwf := hC.1
  have hn16 := hwf.2.2.1
  have hbg := hwf.2.2.2.2.1
  have hsr := sayF_rng (hi 85) m
  
  refine V.iload_n (pc := 0) 1 dX8_odds_0 rfl ?_
  refine V.i2l (pc := 1) dX8_odds_1 ?_
  refine V.lconst (pc := 2) (z := 0) dX8_odds_2 (by decide +kernel) ⟨by decide, by decide⟩ ?_
  refine V.lconst (pc := 3) (z := 1) dX8_odds_3 (by decide +kernel) ⟨by decide, by decide⟩ ?_
  refine V.callS (pc := 4) (e1 := eX8_in) 3 [vL p, vL 0, vL 1] [] mfX8_in slX8_in mlX8_72 dX8_odds_4 rfl rfl (Nat.le_of_ble_eq_true rfl) ⟨by decide, by decide, by decide, by decide⟩ ?_
  refine c_X8_in KW hi hl p 0 1 _ (fun hinp => ?_) (fun hinp => ?_)
  · skip
    refine V.qI (pc := 4) rfl rfl ?_
    refine V.if_ne (pc := 7) 14 dX8_odds_7 (by decide) (fun h7 => ?_) (fun hc => by exact absurd hc (by decide))
    refine V.aload_n (pc := 14) 0 dX8_odds_14 rfl ?_
    refine V.bipush (pc := 15) (z := (-6)) dX8_odds_15 (by decide +kernel) ⟨by decide, by decide⟩ ?_
    refine V.callV (pc := 17) (e1 := eX8_findCosts) (o := 77) (c := 8) 1 [vI (-6)] [] mfX8_findCosts slX8_findCosts mlX8_187 dX8_odds_17 (kS_77) (by decide) rfl rfl rfl (Nat.le_of_ble_eq_true rfl) ⟨by decide, by decide, by decide, by decide⟩ ?_
    refine c_X8_findCosts hi hl σ hC (-6) _ (fun f77 f86 f87 f78 f79 f88 f89 hgd hRW => ?_)
    have hcw : CW f88 f89 σ (-1) := CW_6 (CW_mk hwf hRW)
    refine V.qV (pc := 17) rfl rfl ?_
    refine V.hieq (hi' := (upR (upR (upR (upR (upR (upR hi 88 f88) 79 f79) 78 f78) 87 f87) 86 f86) 77 f77)) ((upR_c ((upR_c ((upR_c ((upR_c ((upR_c r0).trans (rs (by decide) r0))).trans (rs (by decide) (rs (by decide) r0)))).trans (rs (by decide) (rs (by decide) (rs (by decide) r0))))).trans (rs (by decide) (rs (by decide) (rs (by decide) (rs (by decide) r0)))))).trans (rs (by decide) (rs (by decide) (rs (by decide) (rs (by decide) (rs (by decide) r0)))))) ?_
    refine V.aload_n (pc := 20) 0 dX8_odds_20 rfl ?_
    refine V.callV (pc := 21) (e1 := eX8_leastCost) (o := 77) (c := 8) 0 [] [] mfX8_leastCost slX8_leastCost mlX8_196 dX8_odds_21 (kS_77) (by decide) rfl rfl rfl (Nat.le_of_ble_eq_true rfl) ⟨by decide, by decide, by decide, by decide⟩ ?_
    refine c_X8_leastCost (upR (upR (upR (upR (upR (upR hi 88 f88) 79 f79) 78 f78) 87 f87) 86 f86) 77 f77) (upR hl 89 f89) (cX σ (-1)) (BdH_fin hwf) (fun v hv => (hcw v hv).1) _ ?_
    refine V.qI (pc := 21) rfl rfl ?_
    have hmb := mX_b hwf
    have hlx := lcX hwf
    refine V.istore_n (pc := 24) (i := 2) dX8_odds_24 rfl (by decide) (ls' := [(2, vI (lcF (cX σ (-1)) 364)), (0, vR 77), (1, vI p)]) rfl ?_
    refine V.iload_n (pc := 25) 0 dX8_odds_25 rfl ?_
    refine V.if_ge (pc := 26) 33 dX8_odds_26 (by decide) (fun h26 => ?_) (fun h26 => ?_)
    · have hml : mX σ < 1000 := by by_cases q : mX σ < 1000; { exact q }; { have := hlx.2 q; omega }
      have hle := hlx.1 hml
      obtain ⟨_, _, ux3⟩ := up_X hml
      obtain ⟨op1, op2, op3⟩ := odds_pos hwf hml
      rw [w64_id ⟨by omega, by omega⟩] at ux3
      refine V.aload_n (pc := 33) 1 dX8_odds_33 rfl ?_
      refine V.callV (pc := 34) (e1 := eX8_faultOfSaying) (o := 77) (c := 8) 0 [] [] mfX8_faultOfSaying slX8_faultOfSaying mlX8_135 dX8_odds_34 (kS_77) (by decide) rfl rfl rfl (Nat.le_of_ble_eq_true rfl) ⟨by decide, by decide, by decide, by decide⟩ ?_
      refine c_X8_faultOfSaying (upR (upR (upR (upR (upR (upR hi 88 f88) 79 f79) 78 f78) 87 f87) 86 f86) 77 f77) (upR hl 89 f89) m ((hgd 13 (by decide) (by decide) (by decide)).trans hm) hm2 _ ?_
      refine V.qI (pc := 34) rfl rfl ?_
      refine V.top (v' := vI (sayF (hi 85) m)) (rfl) ?_
      refine V.if_lt (pc := 37) 44 dX8_odds_37 (by decide) (fun h37 => ?_) (fun h37 => ?_)
      · have hsf : sayF (hi 85) m = -6 := by omega
        have hpv : padV (σ, m, hi 85, im) = (((f3 m + sayV (hi 85) m) : Nat) : Int) := padV_y hsf
        have hsl := padS_lt hsf
        refine V.lconst (pc := 44) (z := 0) dX8_odds_44 (by decide +kernel) ⟨by decide, by decide⟩ ?_
        refine V.lstore_n (pc := 45) (i := 3) dX8_odds_45 rfl (by decide) (ls' := [(3, vL 0), (2, vI (lcF (cX σ (-1)) 364)), (0, vR 77), (1, vI p)]) rfl ?_
        refine V.iconst (pc := 46) (z := 0) dX8_odds_46 rfl ⟨by decide, by decide⟩ ?_
        refine V.istore (pc := 47) (i := 5) dX8_odds_47 (by decide) (ls' := [(5, vI 0), (3, vL 0), (2, vI (lcF (cX σ (-1)) 364)), (0, vR 77), (1, vI p)]) rfl ?_
        have lp49 : ∀ (fu49 : Nat) (k : Nat), (k ≤ 364) → 364 - k < fu49 → V eX8_odds none KW 49 [(0, vR 77), (1, vI p), (2, vI (lcF (cX σ (-1)) 364)), (3, vL (upS (cX σ (-1)) (nX σ (-1)) (mX σ) k)), (5, vI ((k : Nat) : Int))] [] (upR (upR (upR (upR (upR (upR hi 88 f88) 79 f79) 78 f78) 87 f87) 86 f86) 77 f77) (upR hl 89 f89) 0 0 Q := by
          intro fu49
          induction fu49 with
          | zero => intro k hk hm49; exact absurd hm49 (Nat.not_lt_zero _)
          | succ fu49 ih49 =>
            intro k hk hm49
            refine V.iload (pc := 49) 4 dX8_odds_49 rfl ?_
            refine V.sipush (pc := 51) (z := 364) dX8_odds_51 (by decide +kernel) ⟨by decide, by decide⟩ ?_
            refine V.icmp_ge (pc := 54) 73 dX8_odds_54 (by decide) (fun h54 => ?_) (fun h54 => ?_)
            · skip
              have e364 : k = 364 := by omega
              subst e364
              refine V.aload_n (pc := 73) 0 dX8_odds_73 rfl ?_
              refine V.aload_n (pc := 74) 0 dX8_odds_74 rfl ?_
              refine V.callV (pc := 75) (e1 := eX8_padSaying) (o := 77) (c := 8) 0 [] [vR 77] mfX8_padSaying slX8_padSaying mlX8_141 dX8_odds_75 (kS_77) (by decide) rfl rfl rfl (Nat.le_of_ble_eq_true rfl) ⟨by decide, by decide, by decide, by decide⟩ ?_
              refine c_X8_padSaying (upR (upR (upR (upR (upR (upR hi 88 f88) 79 f79) 78 f78) 87 f87) 86 f86) 77 f77) (upR hl 89 f89) m ((hgd 13 (by decide) (by decide) (by decide)).trans hm) hm2 hsf _ ?_
              refine V.qI (pc := 75) rfl rfl ?_
              refine V.iload_n (pc := 78) 2 dX8_odds_78 rfl ?_
              refine V.callV (pc := 79) (e1 := eX8_waysOf) (o := 77) (c := 8) 2 [vI ((f3 m + sayV (hi 85) m : Nat) : Int), vI (lcF (cX σ (-1)) 364)] [] mfX8_waysOf slX8_waysOf mlX8_201 dX8_odds_79 (kS_77) (by decide) rfl rfl rfl (Nat.le_of_ble_eq_true rfl) ⟨by decide, by decide, by decide, by decide⟩ ?_
              refine c_X8_waysOf (upR (upR (upR (upR (upR (upR hi 88 f88) 79 f79) 78 f78) 87 f87) 86 f86) 77 f77) (upR hl 89 f89) (cX σ (-1)) (BdH_fin hwf) (fun v hv => (hcw v hv).1) (nX σ (-1)) (fun v hv => (hcw v hv).2) (f3 m + sayV (hi 85) m) (by omega) (lcF (cX σ (-1)) 364) _ ?_
              refine V.qJ (pc := 79) rfl rfl ?_
              refine V.top (v' := vL (((wX σ (f3 m + sayV (hi 85) m)).toNat : Nat) : Int)) (congrArg vL ((wvX hwf hsl).trans (Int.toNat_of_nonneg (op3 _ hsl).1).symm)) ?_
              refine V.lstore (pc := 82) (i := 5) dX8_odds_82 (by decide) (ls' := [(5, vL (((wX σ (f3 m + sayV (hi 85) m)).toNat : Nat) : Int)), (0, vR 77), (1, vI p), (2, vI (lcF (cX σ (-1)) 364)), (3, vL (upS (cX σ (-1)) (nX σ (-1)) (mX σ) 364))]) rfl ?_
              refine V.lload (pc := 84) 0 dX8_odds_84 rfl ?_
              refine V.lstore (pc := 86) (i := 7) dX8_odds_86 (by decide) (ls' := [(7, vL (((wX σ (f3 m + sayV (hi 85) m)).toNat : Nat) : Int)), (5, vL (((wX σ (f3 m + sayV (hi 85) m)).toNat : Nat) : Int)), (0, vR 77), (1, vI p), (2, vI (lcF (cX σ (-1)) 364)), (3, vL (upS (cX σ (-1)) (nX σ (-1)) (mX σ) 364))]) rfl ?_
              have ow := op3 (f3 m + sayV (hi 85) m) hsl
              refine V.lload_n (pc := 88) 5 dX8_odds_88 rfl ?_
              refine V.top (v' := vL (((tX σ).2.2.toNat : Nat) : Int)) (congrArg vL (ux3.trans (Int.toNat_of_nonneg (by omega)).symm)) ?_
              refine V.lstore (pc := 89) (i := 9) dX8_odds_89 (by decide) (ls' := [(9, vL (((tX σ).2.2.toNat : Nat) : Int)), (7, vL (((wX σ (f3 m + sayV (hi 85) m)).toNat : Nat) : Int)), (5, vL (((wX σ (f3 m + sayV (hi 85) m)).toNat : Nat) : Int)), (0, vR 77), (1, vI p), (2, vI (lcF (cX σ (-1)) 364)), (3, vL (upS (cX σ (-1)) (nX σ (-1)) (mX σ) 364))]) rfl ?_
              have lp91 : ∀ (fu91 : Nat) (x : Nat) (y : Nat), (x < 9223372036854775808) → (y < 9223372036854775808) → (Nat.gcd x y = Nat.gcd (wX σ (f3 m + sayV (hi 85) m)).toNat (tX σ).2.2.toNat) → y < fu91 → V eX8_odds none KW 91 [(0, vR 77), (1, vI p), (3, vL (upS (cX σ (-1)) (nX σ (-1)) (mX σ) 364)), (5, vL (((wX σ (f3 m + sayV (hi 85) m)).toNat : Nat) : Int)), (7, vL ((x : Nat) : Int)), (9, vL ((y : Nat) : Int))] [] (upR (upR (upR (upR (upR (upR hi 88 f88) 79 f79) 78 f78) 87 f87) 86 f86) 77 f77) (upR hl 89 f89) 0 0 Q := by
                intro fu91
                induction fu91 with
                | zero => intro x y hx hy hg hm91; exact absurd hm91 (Nat.not_lt_zero _)
                | succ fu91 ih91 =>
                  intro x y hx hy hg hm91
                  refine V.lload (pc := 91) 5 dX8_odds_91 rfl ?_
                  refine V.lconst (pc := 93) (z := 0) dX8_odds_93 (by decide +kernel) ⟨by decide, by decide⟩ ?_
                  refine V.lcmp (pc := 94) dX8_odds_94 ?_
                  refine V.if_eq (pc := 95) 116 dX8_odds_95 (by decide) (fun h95 => ?_) (fun h95 => ?_)
                  · have hy0 : y = 0 := by have := lcmp_eq.mp h95; omega
                    subst hy0
                    rw [Nat.gcd_zero_right] at hg
                    have hgc : 1 ≤ Nat.gcd (wX σ (f3 m + sayV (hi 85) m)).toNat (tX σ).2.2.toNat := Nat.gcd_pos_of_pos_right _ (by omega)
                    have hgl : Nat.gcd (wX σ (f3 m + sayV (hi 85) m)).toNat (tX σ).2.2.toNat ≤ (tX σ).2.2.toNat := Nat.gcd_le_right _ (by omega)
                    have hd1 := Nat.div_le_self (wX σ (f3 m + sayV (hi 85) m)).toNat x
                    have hd2 := Nat.div_le_self (tX σ).2.2.toNat x
                    refine V.iload_n (pc := 116) 1 dX8_odds_116 rfl ?_
                    refine V.if_ne (pc := 117) 128 dX8_odds_117 (by decide) (fun h117 => ?_) (fun h117 => ?_)
                    · skip
                      refine V.lload_n (pc := 128) 2 dX8_odds_128 rfl ?_
                      refine V.top (v' := vL (((tX σ).2.2.toNat : Nat) : Int)) (congrArg vL (ux3.trans (Int.toNat_of_nonneg (by omega)).symm)) ?_
                      refine V.lload (pc := 129) 4 dX8_odds_129 rfl ?_
                      refine V.ldiv (pc := 131) (((((tX σ).2.2.toNat) / x : Nat) : Int)) dX8_odds_131 (by omega) (dNL (a := ((tX σ).2.2.toNat)) (b := x) (by omega) (by omega) (by omega)) (rL_n (by omega)) ?_
                      refine V.lret (pc := 132) (z := ((((tX σ).2.2.toNat) / x : Nat) : Int)) dX8_odds_132 rfl ?_
                      have hA : aOdds (σ, m, hi 85, im) p = (((tX σ).2.2.toNat / Nat.gcd (wX σ (f3 m + sayV (hi 85) m)).toNat (tX σ).2.2.toNat : Nat) : Int) := by
                        unfold aOdds
                        try dsimp only [gσ, gm, gg, gi]
                        rw [hpv]
                        refine (if_neg (by first | omega | assumption)).trans ?_
                        refine (if_neg (by first | omega | assumption)).trans ?_
                        refine (if_neg (by first | omega | assumption)).trans ?_
                        refine (if_neg (by first | omega | assumption)).trans ?_
                        rfl
                      rw [hA] at hq
                      rw [← hg] at hq
                      exact hq _ _ (by repeat (first | exact gr0 | refine gr1 (by decide) ?_ | refine gr2 (by decide) ?_)) (RM_up (hl := hl) hC hm hm2 hgr k0 k1 k2 k3 (hgd 8 (by decide) (by decide) (by decide)) (hgd 9 (by decide) (by decide) (by decide)) (hgd 11 (by decide) (by decide) (by decide)) (hgd 13 (by decide) (by decide) (by decide)) rfl rfl rfl rfl rfl rfl rfl rfl)
                    · skip
                      refine V.lload (pc := 120) 3 dX8_odds_120 rfl ?_
                      refine V.lload (pc := 122) 4 dX8_odds_122 rfl ?_
                      refine V.ldiv (pc := 124) (((((wX σ (f3 m + sayV (hi 85) m)).toNat) / x : Nat) : Int)) dX8_odds_124 (by omega) (dNL (a := ((wX σ (f3 m + sayV (hi 85) m)).toNat)) (b := x) (by omega) (by omega) (by omega)) (rL_n (by omega)) ?_
                      refine V.goto (pc := 125) 132 dX8_odds_125 (by decide) ?_
                      refine V.lret (pc := 132) (z := ((((wX σ (f3 m + sayV (hi 85) m)).toNat) / x : Nat) : Int)) dX8_odds_132 rfl ?_
                      have hA : aOdds (σ, m, hi 85, im) p = (((wX σ (f3 m + sayV (hi 85) m)).toNat / Nat.gcd (wX σ (f3 m + sayV (hi 85) m)).toNat (tX σ).2.2.toNat : Nat) : Int) := by
                        unfold aOdds
                        try dsimp only [gσ, gm, gg, gi]
                        rw [hpv]
                        refine (if_neg (by first | omega | assumption)).trans ?_
                        refine (if_neg (by first | omega | assumption)).trans ?_
                        refine (if_neg (by first | omega | assumption)).trans ?_
                        refine (if_pos (by first | omega | assumption)).trans ?_
                        rfl
                      rw [hA] at hq
                      rw [← hg] at hq
                      exact hq _ _ (by repeat (first | exact gr0 | refine gr1 (by decide) ?_ | refine gr2 (by decide) ?_)) (RM_up (hl := hl) hC hm hm2 hgr k0 k1 k2 k3 (hgd 8 (by decide) (by decide) (by decide)) (hgd 9 (by decide) (by decide) (by decide)) (hgd 11 (by decide) (by decide) (by decide)) (hgd 13 (by decide) (by decide) (by decide)) rfl rfl rfl rfl rfl rfl rfl rfl)
                  · have hy0 : 0 < y := by by_cases q : y = 0; { exact absurd (lcmp_eq.mpr (by omega)) h95 }; { omega }
                    have hml2 := Nat.mod_lt x hy0
                    refine V.lload (pc := 98) 4 dX8_odds_98 rfl ?_
                    refine V.lload (pc := 100) 5 dX8_odds_100 rfl ?_
                    refine V.lrem (pc := 102) (((x % y : Nat) : Int)) dX8_odds_102 (by omega) (mNL (a := x) (b := y) (by omega) (by omega) (by omega)) (rL_n (by omega)) ?_
                    refine V.lstore (pc := 103) (i := 11) dX8_odds_103 (by decide) (ls' := [(11, vL ((x % y : Nat) : Int)), (0, vR 77), (1, vI p), (3, vL (upS (cX σ (-1)) (nX σ (-1)) (mX σ) 364)), (5, vL (((wX σ (f3 m + sayV (hi 85) m)).toNat : Nat) : Int)), (7, vL ((x : Nat) : Int)), (9, vL ((y : Nat) : Int))]) rfl ?_
                    refine V.lload (pc := 105) 6 dX8_odds_105 rfl ?_
                    refine V.lstore (pc := 107) (i := 7) dX8_odds_107 (by decide) (ls' := [(7, vL ((y : Nat) : Int)), (11, vL ((x % y : Nat) : Int)), (0, vR 77), (1, vI p), (3, vL (upS (cX σ (-1)) (nX σ (-1)) (mX σ) 364)), (5, vL (((wX σ (f3 m + sayV (hi 85) m)).toNat : Nat) : Int)), (9, vL ((y : Nat) : Int))]) rfl ?_
                    refine V.lload (pc := 109) 1 dX8_odds_109 rfl ?_
                    refine V.lstore (pc := 111) (i := 9) dX8_odds_111 (by decide) (ls' := [(9, vL ((x % y : Nat) : Int)), (7, vL ((y : Nat) : Int)), (11, vL ((x % y : Nat) : Int)), (0, vR 77), (1, vI p), (3, vL (upS (cX σ (-1)) (nX σ (-1)) (mX σ) 364)), (5, vL (((wX σ (f3 m + sayV (hi 85) m)).toNat : Nat) : Int))]) rfl ?_
                    refine V.goto (pc := 113) 91 dX8_odds_113 (by decide) ?_
                    refine V.locs [3, 4, 5, 6, 1, 0] (ls' := [(0, vR 77), (1, vI p), (3, vL (upS (cX σ (-1)) (nX σ (-1)) (mX σ) 364)), (5, vL (((wX σ (f3 m + sayV (hi 85) m)).toNat : Nat) : Int)), (7, vL ((y : Nat) : Int)), (9, vL ((x % y : Nat) : Int))]) rfl ?_
                    exact ih91 y (x % y) (hy) (by omega) (by rw [gcd_step]; exact hg) (by omega)
              refine V.locs [3, 4, 6, 2, 1, 0] (ls' := [(0, vR 77), (1, vI p), (3, vL (upS (cX σ (-1)) (nX σ (-1)) (mX σ) 364)), (5, vL (((wX σ (f3 m + sayV (hi 85) m)).toNat : Nat) : Int)), (7, vL (((wX σ (f3 m + sayV (hi 85) m)).toNat : Nat) : Int)), (9, vL (((tX σ).2.2.toNat : Nat) : Int))]) rfl ?_
              exact lp91 _ ((wX σ (f3 m + sayV (hi 85) m)).toNat) ((tX σ).2.2.toNat) (by omega) (by omega) (rfl) (Nat.lt_succ_self _)
            · skip
              refine V.lload_n (pc := 57) 3 dX8_odds_57 rfl ?_
              refine V.aload_n (pc := 58) 0 dX8_odds_58 rfl ?_
              refine V.iload (pc := 59) 4 dX8_odds_59 rfl ?_
              refine V.iload_n (pc := 61) 2 dX8_odds_61 rfl ?_
              refine V.callV (pc := 62) (e1 := eX8_waysOf) (o := 77) (c := 8) 2 [vI ((k : Nat) : Int), vI (lcF (cX σ (-1)) 364)] [vL (upS (cX σ (-1)) (nX σ (-1)) (mX σ) k)] mfX8_waysOf slX8_waysOf mlX8_201 dX8_odds_62 (kS_77) (by decide) rfl rfl rfl (Nat.le_of_ble_eq_true rfl) ⟨by decide, by decide, by decide, by decide⟩ ?_
              refine c_X8_waysOf (upR (upR (upR (upR (upR (upR hi 88 f88) 79 f79) 78 f78) 87 f87) 86 f86) 77 f77) (upR hl 89 f89) (cX σ (-1)) (BdH_fin hwf) (fun v hv => (hcw v hv).1) (nX σ (-1)) (fun v hv => (hcw v hv).2) k (by omega) (lcF (cX σ (-1)) 364) _ ?_
              refine V.qJ (pc := 62) rfl rfl ?_
              refine V.ladd (pc := 65) ((upS (cX σ (-1)) (nX σ (-1)) (mX σ) (k + 1))) dX8_odds_65 (by rw [hle]; exact upS_st (BdH_fin hwf k (by omega)).1 hml hmb.1) ?_
              refine V.lstore_n (pc := 66) (i := 3) dX8_odds_66 rfl (by decide) (ls' := [(3, vL (upS (cX σ (-1)) (nX σ (-1)) (mX σ) (k + 1))), (0, vR 77), (1, vI p), (2, vI (lcF (cX σ (-1)) 364)), (5, vI ((k : Nat) : Int))]) rfl ?_
              refine V.iinc (pc := 67) (r := ((k + 1 : Nat) : Int)) 4 dX8_odds_67 rfl (w32_of (by omega) (by omega) (by omega)) (by decide) (ls' := [(5, vI ((k + 1 : Nat) : Int)), (3, vL (upS (cX σ (-1)) (nX σ (-1)) (mX σ) (k + 1))), (0, vR 77), (1, vI p), (2, vI (lcF (cX σ (-1)) 364))]) rfl ?_
              refine V.goto (pc := 70) 49 dX8_odds_70 (by decide) ?_
              refine V.locs [2, 3, 4, 1, 0] (ls' := [(0, vR 77), (1, vI p), (2, vI (lcF (cX σ (-1)) 364)), (3, vL (upS (cX σ (-1)) (nX σ (-1)) (mX σ) (k + 1))), (5, vI ((k + 1 : Nat) : Int))]) rfl ?_
              exact ih49 (k + 1) (by omega) (by omega)
        refine V.locs [3, 4, 2, 1, 0] (ls' := [(0, vR 77), (1, vI p), (2, vI (lcF (cX σ (-1)) 364)), (3, vL 0), (5, vI 0)]) rfl ?_
        exact lp49 _ 0 (by omega) (Nat.lt_succ_self _)
      · have hsf : sayF (hi 85) m ≠ -6 := by omega
        have hpv : padV (σ, m, hi 85, im) = -1 := padV_n hsf
        refine V.ldc2 (pc := 40) (z := (-1000000000000000005)) clX8_199 dX8_odds_40 ⟨by decide, by decide⟩ ?_
        refine V.lret (pc := 43) (z := (-1000000000000000005)) dX8_odds_43 rfl ?_
        have hA : aOdds (σ, m, hi 85, im) p = -1000000000000000005 := by
          unfold aOdds
          try dsimp only [gσ, gm, gg, gi]
          refine (if_neg (by first | omega | assumption)).trans ?_
          refine (if_neg (by first | omega | assumption)).trans ?_
          refine (if_pos (by first | omega | assumption)).trans ?_
          rfl
        rw [hA] at hq
        exact hq _ _ (by repeat (first | exact gr0 | refine gr1 (by decide) ?_ | refine gr2 (by decide) ?_)) (RM_up (hl := hl) hC hm hm2 hgr k0 k1 k2 k3 (hgd 8 (by decide) (by decide) (by decide)) (hgd 9 (by decide) (by decide) (by decide)) (hgd 11 (by decide) (by decide) (by decide)) (hgd 13 (by decide) (by decide) (by decide)) rfl rfl rfl rfl rfl rfl rfl rfl)
    · have hml : ¬ mX σ < 1000 := fun q => by have := hlx.1 q; omega
      have hm1 : mX σ = 1000 := by omega
      refine V.ldc2 (pc := 29) (z := (-1000000000000000003)) clX8_207 dX8_odds_29 ⟨by decide, by decide⟩ ?_
      refine V.lret (pc := 32) (z := (-1000000000000000003)) dX8_odds_32 rfl ?_
      have hA : aOdds (σ, m, hi 85, im) p = -1000000000000000003 := by
        unfold aOdds
        try dsimp only [gσ, gm, gg, gi]
        refine (if_neg (by first | omega | assumption)).trans ?_
        refine (if_pos (by first | omega | assumption)).trans ?_
        rfl
      rw [hA] at hq
      exact hq _ _ (by repeat (first | exact gr0 | refine gr1 (by decide) ?_ | refine gr2 (by decide) ?_)) (RM_up (hl := hl) hC hm hm2 hgr k0 k1 k2 k3 (hgd 8 (by decide) (by decide) (by decide)) (hgd 9 (by decide) (by decide) (by decide)) (hgd 11 (by decide) (by decide) (by decide)) (hgd 13 (by decide) (by decide) (by decide)) rfl rfl rfl rfl rfl rfl rfl rfl)
  · skip
    refine V.qI (pc := 4) rfl rfl ?_
    refine V.if_ne (pc := 7) 14 dX8_odds_7 (by decide) (fun hc => by exact absurd hc (by decide)) (fun h7 => ?_)
    refine V.ldc2 (pc := 10) (z := (-1000000000000000002)) clX8_205 dX8_odds_10 ⟨by decide, by decide⟩ ?_
    refine V.lret (pc := 13) (z := (-1000000000000000002)) dX8_odds_13 rfl ?_
    have hA : aOdds (σ, m, hi 85, im) p = -1000000000000000002 := by
      unfold aOdds
      try dsimp only [gσ, gm, gg, gi]
      refine (if_pos (by first | omega | assumption)).trans ?_
      rfl
    rw [hA] at hq
    exact hq _ _ (by repeat (first | exact gr0 | refine gr1 (by decide) ?_ | refine gr2 (by decide) ?_)) hR

set_option maxRecDepth 100000 in
theorem c_X8_canBe (hi hl : HI) (σ : SG) (m : Nat) (g : Nat → Int) (im : Nat → Option SG) (hR : RMo hi hl (σ, m, g, im)) (k : Int) (Q : QT) (hq : ∀ hi' hl' : HI, FrM hi hl hi' hl' → RMo hi' hl' (σ, m, g, im) → Q (some (vI (aCan (σ, m, g, im) k))) KW hi' hl') : Con eX8_canBe [vR 77, vI k] KW hi hl Q := by
  refine Con.ofV (by decide +kernel) (Nat.le_of_ble_eq_true rfl) ?_
  show V eX8_canBe none KW 0 [(0, vR 77), (1, vI k)] [] hi hl 0 0 Q
  obtain ⟨hC, ⟨hm, hm2, hg5, hgr⟩, k0, k1, k2, k3⟩ := RM_o hR
  subst hg5
  have hwf := hC.1
  have hn16 := hwf.2.2.1
  have hbg := hwf.2.2.2.2.1
  refine V.iload_n (pc := 0) 1 dX8_canBe_0 rfl ?_
  refine V.i2l (pc := 1) dX8_canBe_1 ?_
  refine V.lconst (pc := 2) (z := 0) dX8_canBe_2 (by decide +kernel) ⟨by decide, by decide⟩ ?_
  refine V.ldc2 (pc := 3) (z := 16) clX8_209 dX8_canBe_3 ⟨by decide, by decide⟩ ?_
  refine V.callS (pc := 6) (e1 := eX8_in) 3 [vL k, vL 0, vL 16] [] mfX8_in slX8_in mlX8_72 dX8_canBe_6 rfl rfl (Nat.le_of_ble_eq_true rfl) ⟨by decide, by decide, by decide, by decide⟩ ?_
  refine c_X8_in KW hi hl k 0 16 _ (fun hink => ?_) (fun hink => ?_)
  · skip
    refine V.qI (pc := 6) rfl rfl ?_
    refine V.if_ne (pc := 9) 15 dX8_canBe_9 (by decide) (fun h9 => ?_) (fun hc => by exact absurd hc (by decide))
    refine V.aload_n (pc := 15) 0 dX8_canBe_15 rfl ?_
    refine V.bipush (pc := 16) (z := (-6)) dX8_canBe_16 (by decide +kernel) ⟨by decide, by decide⟩ ?_
    refine V.callV (pc := 18) (e1 := eX8_findCosts) (o := 77) (c := 8) 1 [vI (-6)] [] mfX8_findCosts slX8_findCosts mlX8_187 dX8_canBe_18 (kS_77) (by decide) rfl rfl rfl (Nat.le_of_ble_eq_true rfl) ⟨by decide, by decide, by decide, by decide⟩ ?_
    refine c_X8_findCosts hi hl σ hC (-6) _ (fun f77 f86 f87 f78 f79 f88 f89 hgd hRW => ?_)
    have hcw : CW f88 f89 σ (-1) := CW_6 (CW_mk hwf hRW)
    refine V.qV (pc := 18) rfl rfl ?_
    refine V.hieq (hi' := (upR (upR (upR (upR (upR (upR hi 88 f88) 79 f79) 78 f78) 87 f87) 86 f86) 77 f77)) ((upR_c ((upR_c ((upR_c ((upR_c ((upR_c r0).trans (rs (by decide) r0))).trans (rs (by decide) (rs (by decide) r0)))).trans (rs (by decide) (rs (by decide) (rs (by decide) r0))))).trans (rs (by decide) (rs (by decide) (rs (by decide) (rs (by decide) r0)))))).trans (rs (by decide) (rs (by decide) (rs (by decide) (rs (by decide) (rs (by decide) r0)))))) ?_
    refine V.aload_n (pc := 21) 0 dX8_canBe_21 rfl ?_
    refine V.iload_n (pc := 22) 1 dX8_canBe_22 rfl ?_
    refine V.callV (pc := 23) (e1 := eX8_canBeBy) (o := 77) (c := 8) 1 [vI k] [] mfX8_canBeBy slX8_canBeBy mlX8_211 dX8_canBe_23 (kS_77) (by decide) rfl rfl rfl (Nat.le_of_ble_eq_true rfl) ⟨by decide, by decide, by decide, by decide⟩ ?_
    refine c_X8_canBeBy (upR (upR (upR (upR (upR (upR hi 88 f88) 79 f79) 78 f78) 87 f87) 86 f86) 77 f77) (upR hl 89 f89) (cX σ (-1)) (BdH_fin hwf) (fun v hv => (hcw v hv).1) k (by omega) _ ?_
    refine V.qI (pc := 23) rfl rfl ?_
    refine V.iret (pc := 26) (z := ((ctF (cX σ (-1)) k 364 : Nat) : Int)) dX8_canBe_26 rfl ?_
    have hA : aCan (σ, m, hi 85, im) k = (ctF (cX σ (-1)) k 364 : Nat) := by
      unfold aCan
      try dsimp only [gσ, gm, gg, gi]
      refine (if_neg (by first | omega | assumption)).trans ?_
      rfl
    rw [hA] at hq
    exact hq _ _ (by repeat (first | exact gr0 | refine gr1 (by decide) ?_ | refine gr2 (by decide) ?_)) (RM_up (hl := hl) hC hm hm2 hgr k0 k1 k2 k3 (hgd 8 (by decide) (by decide) (by decide)) (hgd 9 (by decide) (by decide) (by decide)) (hgd 11 (by decide) (by decide) (by decide)) (hgd 13 (by decide) (by decide) (by decide)) rfl rfl rfl rfl rfl rfl rfl rfl)
  · skip
    refine V.qI (pc := 6) rfl rfl ?_
    refine V.if_ne (pc := 9) 15 dX8_canBe_9 (by decide) (fun hc => by exact absurd hc (by decide)) (fun h9 => ?_)
    refine V.bipush (pc := 12) (z := (-2)) dX8_canBe_12 (by decide +kernel) ⟨by decide, by decide⟩ ?_
    refine V.iret (pc := 14) (z := (-2)) dX8_canBe_14 rfl ?_
    have hA : aCan (σ, m, hi 85, im) k = -2 := by
      unfold aCan
      try dsimp only [gσ, gm, gg, gi]
      refine (if_pos (by first | omega | assumption)).trans ?_
      rfl
    rw [hA] at hq
    exact hq _ _ (by repeat (first | exact gr0 | refine gr1 (by decide) ?_ | refine gr2 (by decide) ?_)) hR

set_option maxRecDepth 100000 in
theorem c_X8_taught (hi hl : HI) (σ : SG) (m : Nat) (g : Nat → Int) (im : Nat → Option SG) (hR : RMo hi hl (σ, m, g, im)) (k : Int) (Q : QT) (hq : ∀ hi' hl' : HI, FrM hi hl hi' hl' → RMo hi' hl' (σ, m, g, im) → Q (some (vI (aTau (σ, m, g, im) k))) KW hi' hl') : Con eX8_taught [vR 77, vI k] KW hi hl Q := by
  refine Con.ofV (by decide +kernel) (Nat.le_of_ble_eq_true rfl) ?_
  show V eX8_taught none KW 0 [(0, vR 77), (1, vI k)] [] hi hl 0 0 Q
  obtain ⟨hC, ⟨hm, hm2, hg5, hgr⟩, k0, k1, k2, k3⟩ := RM_o hR
  subst hg5
  have hwf := hC.1
  have hn16 := hwf.2.2.1
  have hbg := hwf.2.2.2.2.1
  refine V.iload_n (pc := 0) 1 dX8_taught_0 rfl ?_
  refine V.i2l (pc := 1) dX8_taught_1 ?_
  refine V.lconst (pc := 2) (z := 0) dX8_taught_2 (by decide +kernel) ⟨by decide, by decide⟩ ?_
  refine V.ldc2 (pc := 3) (z := 16) clX8_209 dX8_taught_3 ⟨by decide, by decide⟩ ?_
  refine V.callS (pc := 6) (e1 := eX8_in) 3 [vL k, vL 0, vL 16] [] mfX8_in slX8_in mlX8_72 dX8_taught_6 rfl rfl (Nat.le_of_ble_eq_true rfl) ⟨by decide, by decide, by decide, by decide⟩ ?_
  refine c_X8_in KW hi hl k 0 16 _ (fun hink => ?_) (fun hink => ?_)
  · skip
    refine V.qI (pc := 6) rfl rfl ?_
    refine V.if_ne (pc := 9) 15 dX8_taught_9 (by decide) (fun h9 => ?_) (fun hc => by exact absurd hc (by decide))
    refine V.aload_n (pc := 15) 0 dX8_taught_15 rfl ?_
    refine V.bipush (pc := 16) (z := (-6)) dX8_taught_16 (by decide +kernel) ⟨by decide, by decide⟩ ?_
    refine V.callV (pc := 18) (e1 := eX8_findCosts) (o := 77) (c := 8) 1 [vI (-6)] [] mfX8_findCosts slX8_findCosts mlX8_187 dX8_taught_18 (kS_77) (by decide) rfl rfl rfl (Nat.le_of_ble_eq_true rfl) ⟨by decide, by decide, by decide, by decide⟩ ?_
    refine c_X8_findCosts hi hl σ hC (-6) _ (fun f77 f86 f87 f78 f79 f88 f89 hgd hRW => ?_)
    have hcw : CW f88 f89 σ (-1) := CW_6 (CW_mk hwf hRW)
    refine V.qV (pc := 18) rfl rfl ?_
    refine V.hieq (hi' := (upR (upR (upR (upR (upR (upR hi 88 f88) 79 f79) 78 f78) 87 f87) 86 f86) 77 f77)) ((upR_c ((upR_c ((upR_c ((upR_c ((upR_c r0).trans (rs (by decide) r0))).trans (rs (by decide) (rs (by decide) r0)))).trans (rs (by decide) (rs (by decide) (rs (by decide) r0))))).trans (rs (by decide) (rs (by decide) (rs (by decide) (rs (by decide) r0)))))).trans (rs (by decide) (rs (by decide) (rs (by decide) (rs (by decide) (rs (by decide) r0)))))) ?_
    refine V.aload_n (pc := 21) 0 dX8_taught_21 rfl ?_
    refine V.iload_n (pc := 22) 1 dX8_taught_22 rfl ?_
    refine V.callV (pc := 23) (e1 := eX8_canBeBy) (o := 77) (c := 8) 1 [vI k] [] mfX8_canBeBy slX8_canBeBy mlX8_211 dX8_taught_23 (kS_77) (by decide) rfl rfl rfl (Nat.le_of_ble_eq_true rfl) ⟨by decide, by decide, by decide, by decide⟩ ?_
    refine c_X8_canBeBy (upR (upR (upR (upR (upR (upR hi 88 f88) 79 f79) 78 f78) 87 f87) 86 f86) 77 f77) (upR hl 89 f89) (cX σ (-1)) (BdH_fin hwf) (fun v hv => (hcw v hv).1) k (by omega) _ ?_
    refine V.qI (pc := 23) rfl rfl ?_
    have hcp := ct_pos (c := cX σ (-1)) (x := k) (by omega) 364
    refine V.if_le (pc := 26) 32 dX8_taught_26 (by decide) (fun h26 => ?_) (fun h26 => ?_)
    · have hmk : ¬ mX σ ≤ k := fun q => by have := hcp.mpr q; omega
      refine V.iconst (pc := 32) (z := 0) dX8_taught_32 rfl ⟨by decide, by decide⟩ ?_
      refine V.istore_n (pc := 33) (i := 2) dX8_taught_33 rfl (by decide) (ls' := [(2, vI 0), (0, vR 77), (1, vI k)]) rfl ?_
      refine V.iconst (pc := 34) (z := 0) dX8_taught_34 rfl ⟨by decide, by decide⟩ ?_
      refine V.istore_n (pc := 35) (i := 3) dX8_taught_35 rfl (by decide) (ls' := [(3, vI 0), (2, vI 0), (0, vR 77), (1, vI k)]) rfl ?_
      have lp36 : ∀ (fu36 : Nat) (b : Nat) (r77 : Nat → Int) (r86 : Nat → Int) (r87 : Nat → Int) (r78 : Nat → Int) (r79 : Nat → Int) (r88 : Nat → Int) (r89 : Nat → Int), (b ≤ 6) → (∀ j, j ≠ 1 → j ≠ 3 → j ≠ 15 → r77 j = hi 77 j) → 6 - b < fu36 → V eX8_taught none KW 36 [(0, vR 77), (1, vI k), (2, vI (((tgF σ k b) : Nat) : Int)), (3, vI ((b : Nat) : Int))] [] (upR (upR (upR (upR (upR (upR hi 88 r88) 79 r79) 78 r78) 87 r87) 86 r86) 77 r77) (upR hl 89 r89) 0 0 Q := by
        intro fu36
        induction fu36 with
        | zero => intro b r77 r86 r87 r78 r79 r88 r89 hb6 hr hm36; exact absurd hm36 (Nat.not_lt_zero _)
        | succ fu36 ih36 =>
          intro b r77 r86 r87 r78 r79 r88 r89 hb6 hr hm36
          have htl := tgF_lt σ k b
          have hp6 : 2 ^ b ≤ 2 ^ 6 := Nat.pow_le_pow_right (by decide) hb6
          have h64 : 2 ^ 6 = 64 := rfl
          refine V.iload_n (pc := 36) 3 dX8_taught_36 rfl ?_
          refine V.bipush (pc := 37) (z := 6) dX8_taught_37 (by decide +kernel) ⟨by decide, by decide⟩ ?_
          refine V.icmp_ge (pc := 39) 80 dX8_taught_39 (by decide) (fun h39 => ?_) (fun h39 => ?_)
          · skip
            refine V.iload_n (pc := 80) 2 dX8_taught_80 rfl ?_
            refine V.iret (pc := 81) (z := (((tgF σ k b) : Nat) : Int)) dX8_taught_81 rfl ?_
            have e6 : b = 6 := by omega
            subst e6
            have hA : aTau (σ, m, hi 85, im) k = (tgF σ k 6 : Nat) := by
              unfold aTau
              try dsimp only [gσ, gm, gg, gi]
              refine (if_neg (by first | omega | assumption)).trans ?_
              refine (if_neg (by first | omega | assumption)).trans ?_
              rfl
            rw [hA] at hq
            exact hq _ _ (by repeat (first | exact gr0 | refine gr1 (by decide) ?_ | refine gr2 (by decide) ?_)) (RM_up (hl := hl) hC hm hm2 hgr k0 k1 k2 k3 (hr 8 (by decide) (by decide) (by decide)) (hr 9 (by decide) (by decide) (by decide)) (hr 11 (by decide) (by decide) (by decide)) (hr 13 (by decide) (by decide) (by decide)) rfl rfl rfl rfl rfl rfl rfl rfl)
          · skip
            refine V.aload_n (pc := 42) 0 dX8_taught_42 rfl ?_
            refine V.gr (pc := 43) 8 10 84 flX8_28 dX8_taught_43 (kS_77) (by decide) (by decide) rfl (kR_77_10) ?_
            refine V.iload_n (pc := 46) 3 dX8_taught_46 rfl ?_
            refine V.ia (pc := 47) (len := 6) b (encM (te σ b)) dX8_taught_47 (kS_84) (rfl) (by omega) (hC.2.2.1 b (by omega)) ?_
            refine V.if_lt (pc := 48) 74 dX8_taught_48 (by decide) (fun h48 => ?_) (fun h48 => ?_)
            · have htn := encM_none.mp (show encM (te σ b) < 0 by omega)
              have e := (tg_step (σ := σ) (k := k) (b := b)).1 htn (show k ≤ 16 by omega)
              refine V.iinc (pc := 74) (r := ((b + 1 : Nat) : Int)) 3 dX8_taught_74 rfl (w32_of (by omega) (by omega) (by omega)) (by decide) (ls' := [(3, vI ((b + 1 : Nat) : Int)), (0, vR 77), (1, vI k), (2, vI (((tgF σ k b) : Nat) : Int))]) rfl ?_
              refine V.goto (pc := 77) 36 dX8_taught_77 (by decide) ?_
              refine V.locs [1, 2, 3, 0] (ls' := [(0, vR 77), (1, vI k), (2, vI (((tgF σ k b) : Nat) : Int)), (3, vI ((b + 1 : Nat) : Int))]) rfl ?_
              rw [← e]
              exact ih36 (b + 1) r77 r86 r87 r78 r79 r88 r89 (by omega) (hr) (by omega)
            · have htn : ¬ te σ b = none := fun q => h48 (encM_none.mpr q)
              have hts := (tg_step (σ := σ) (k := k) (b := b)).2 htn
              refine V.aload_n (pc := 51) 0 dX8_taught_51 rfl ?_
              refine V.iload_n (pc := 52) 3 dX8_taught_52 rfl ?_
              refine V.callV (pc := 53) (e1 := eX8_findCosts) (o := 77) (c := 8) 1 [vI ((b : Nat) : Int)] [] mfX8_findCosts slX8_findCosts mlX8_187 dX8_taught_53 (kS_77) (by decide) rfl rfl rfl (Nat.le_of_ble_eq_true rfl) ⟨by decide, by decide, by decide, by decide⟩ ?_
              refine c_X8_findCosts (upR (upR (upR (upR (upR (upR hi 88 r88) 79 r79) 78 r78) 87 r87) 86 r86) 77 r77) (upR hl 89 r89) σ (MR_up hC (hr 8 (by decide) (by decide) (by decide)) (hr 9 (by decide) (by decide) (by decide)) (hr 11 (by decide) (by decide) (by decide)) rfl rfl rfl rfl rfl) ((b : Nat) : Int) _ (fun f77B f86B f87B f78B f79B f88B f89B hgdB hRWB => ?_)
              have hcwB : CW f88B f89B σ ((b : Nat) : Int) := CW_mk hwf hRWB
              refine V.qV (pc := 53) rfl rfl ?_
              refine V.hieq (hi' := (upR (upR (upR (upR (upR (upR hi 88 f88B) 79 f79B) 78 f78B) 87 f87B) 86 f86B) 77 f77B)) ((upR_c ((upR_c ((upR_c ((upR_c ((upR_c r1).trans (rs (by decide) r1))).trans (rs (by decide) (rs (by decide) r1)))).trans (rs (by decide) (rs (by decide) (rs (by decide) r1))))).trans (rs (by decide) (rs (by decide) (rs (by decide) (rs (by decide) r1)))))).trans (rs (by decide) (rs (by decide) (rs (by decide) (rs (by decide) (rs (by decide) r1)))))) ?_
              refine V.hleq (hl' := (upR hl 89 f89B)) r1 ?_
              refine V.iload_n (pc := 56) 2 dX8_taught_56 rfl ?_
              refine V.aload_n (pc := 57) 0 dX8_taught_57 rfl ?_
              refine V.iload_n (pc := 58) 1 dX8_taught_58 rfl ?_
              refine V.callV (pc := 59) (e1 := eX8_canBeBy) (o := 77) (c := 8) 1 [vI k] [vI (((tgF σ k b) : Nat) : Int)] mfX8_canBeBy slX8_canBeBy mlX8_211 dX8_taught_59 (kS_77) (by decide) rfl rfl rfl (Nat.le_of_ble_eq_true rfl) ⟨by decide, by decide, by decide, by decide⟩ ?_
              refine c_X8_canBeBy (upR (upR (upR (upR (upR (upR hi 88 f88B) 79 f79B) 78 f78B) 87 f87B) 86 f86B) 77 f77B) (upR hl 89 f89B) (cX σ b) (BdH_fin hwf) (fun v hv => (hcwB v hv).1) k (by omega) _ ?_
              refine V.qI (pc := 59) rfl rfl ?_
              have hcpb := ct_pos (c := cX σ b) (x := k) (by omega) 364
              refine V.if_le (pc := 62) 71 dX8_taught_62 (by decide) (fun h62 => ?_) (fun h62 => ?_)
              · have e := hts.2 (fun q => by have := hcpb.mpr q; omega)
                refine V.iconst (pc := 71) (z := 0) dX8_taught_71 rfl ⟨by decide, by decide⟩ ?_
                refine V.ior (pc := 72) ((((tgF σ k (b + 1)) : Nat) : Int)) dX8_taught_72 (by rw [e]; have hz := oN (tgF σ k b) 0; rw [Nat.or_zero] at hz; exact hz) (rI_n (by have hor := tgF_lt σ k (b + 1); have hp7 : 2 ^ (b + 1) ≤ 2 ^ 6 := Nat.pow_le_pow_right (by decide) (by omega); omega)) ?_
                refine V.istore_n (pc := 73) (i := 2) dX8_taught_73 rfl (by decide) (ls' := [(2, vI (((tgF σ k (b + 1)) : Nat) : Int)), (0, vR 77), (1, vI k), (3, vI ((b : Nat) : Int))]) rfl ?_
                refine V.iinc (pc := 74) (r := ((b + 1 : Nat) : Int)) 3 dX8_taught_74 rfl (w32_of (by omega) (by omega) (by omega)) (by decide) (ls' := [(3, vI ((b + 1 : Nat) : Int)), (2, vI (((tgF σ k (b + 1)) : Nat) : Int)), (0, vR 77), (1, vI k)]) rfl ?_
                refine V.goto (pc := 77) 36 dX8_taught_77 (by decide) ?_
                refine V.locs [2, 3, 1, 0] (ls' := [(0, vR 77), (1, vI k), (2, vI (((tgF σ k (b + 1)) : Nat) : Int)), (3, vI ((b + 1 : Nat) : Int))]) rfl ?_
                exact ih36 (b + 1) f77B f86B f87B f78B f79B f88B f89B (by omega) (fun j h1 h3 h15 => (hgdB j h1 h3 h15).trans (hr j h1 h3 h15)) (by omega)
              · have e := hts.1 (hcpb.mp (by omega))
                refine V.iconst (pc := 65) (z := 1) dX8_taught_65 rfl ⟨by decide, by decide⟩ ?_
                refine V.iload_n (pc := 66) 3 dX8_taught_66 rfl ?_
                refine V.ishl (pc := 67) (((1 * 2 ^ b : Nat) : Int)) dX8_taught_67 (sN (a := 1) (by omega) (by omega)) (rI_n (by omega)) ?_
                refine V.goto (pc := 68) 72 dX8_taught_68 (by decide) ?_
                refine V.ior (pc := 72) ((((tgF σ k (b + 1)) : Nat) : Int)) dX8_taught_72 (by rw [e]; exact oN (tgF σ k b) (1 * 2 ^ b)) (rI_n (by have hor := tgF_lt σ k (b + 1); have hp7 : 2 ^ (b + 1) ≤ 2 ^ 6 := Nat.pow_le_pow_right (by decide) (by omega); omega)) ?_
                refine V.istore_n (pc := 73) (i := 2) dX8_taught_73 rfl (by decide) (ls' := [(2, vI (((tgF σ k (b + 1)) : Nat) : Int)), (0, vR 77), (1, vI k), (3, vI ((b : Nat) : Int))]) rfl ?_
                refine V.iinc (pc := 74) (r := ((b + 1 : Nat) : Int)) 3 dX8_taught_74 rfl (w32_of (by omega) (by omega) (by omega)) (by decide) (ls' := [(3, vI ((b + 1 : Nat) : Int)), (2, vI (((tgF σ k (b + 1)) : Nat) : Int)), (0, vR 77), (1, vI k)]) rfl ?_
                refine V.goto (pc := 77) 36 dX8_taught_77 (by decide) ?_
                refine V.locs [2, 3, 1, 0] (ls' := [(0, vR 77), (1, vI k), (2, vI (((tgF σ k (b + 1)) : Nat) : Int)), (3, vI ((b + 1 : Nat) : Int))]) rfl ?_
                exact ih36 (b + 1) f77B f86B f87B f78B f79B f88B f89B (by omega) (fun j h1 h3 h15 => (hgdB j h1 h3 h15).trans (hr j h1 h3 h15)) (by omega)
      refine V.locs [2, 3, 1, 0] (ls' := [(0, vR 77), (1, vI k), (2, vI 0), (3, vI 0)]) rfl ?_
      exact lp36 _ 0 f77 f86 f87 f78 f79 f88 f89 (by omega) (hgd) (Nat.lt_succ_self _)
    · have hmk : mX σ ≤ k := hcp.mp (by omega)
      refine V.bipush (pc := 29) (z := (-3)) dX8_taught_29 (by decide +kernel) ⟨by decide, by decide⟩ ?_
      refine V.iret (pc := 31) (z := (-3)) dX8_taught_31 rfl ?_
      have hA : aTau (σ, m, hi 85, im) k = -3 := by
        unfold aTau
        try dsimp only [gσ, gm, gg, gi]
        refine (if_neg (by first | omega | assumption)).trans ?_
        refine (if_pos (by first | omega | assumption)).trans ?_
        rfl
      rw [hA] at hq
      exact hq _ _ (by repeat (first | exact gr0 | refine gr1 (by decide) ?_ | refine gr2 (by decide) ?_)) (RM_up (hl := hl) hC hm hm2 hgr k0 k1 k2 k3 (hgd 8 (by decide) (by decide) (by decide)) (hgd 9 (by decide) (by decide) (by decide)) (hgd 11 (by decide) (by decide) (by decide)) (hgd 13 (by decide) (by decide) (by decide)) rfl rfl rfl rfl rfl rfl rfl rfl)
  · skip
    refine V.qI (pc := 6) rfl rfl ?_
    refine V.if_ne (pc := 9) 15 dX8_taught_9 (by decide) (fun hc => by exact absurd hc (by decide)) (fun h9 => ?_)
    refine V.bipush (pc := 12) (z := (-2)) dX8_taught_12 (by decide +kernel) ⟨by decide, by decide⟩ ?_
    refine V.iret (pc := 14) (z := (-2)) dX8_taught_14 rfl ?_
    have hA : aTau (σ, m, hi 85, im) k = -2 := by
      unfold aTau
      try dsimp only [gσ, gm, gg, gi]
      refine (if_pos (by first | omega | assumption)).trans ?_
      rfl
    rw [hA] at hq
    exact hq _ _ (by repeat (first | exact gr0 | refine gr1 (by decide) ?_ | refine gr2 (by decide) ?_)) hR

