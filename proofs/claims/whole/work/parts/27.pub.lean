set_option maxRecDepth 100000 in
theorem c_X7_forgetHistories (hi hl : HI) (Q : QT) (hq : Q none KW (upR hi 0 (updF (updF (hi 0) 11 0) 12 0)) hl) : Con eX7_forgetHistories [vR 0] KW hi hl Q := by
  refine Con.ofV (by decide +kernel) (Nat.le_of_ble_eq_true rfl) ?_
  show V eX7_forgetHistories none KW 0 [(0, vR 0)] [] hi hl 0 0 Q
  refine V.hieq (hi' := (upR hi 0 (hi 0))) (by rw [upR_id]) ?_
  refine V.aload_n (pc := 0) 0 dX7_forgetHistories_0 rfl ?_
  refine V.iconst (pc := 1) (z := 0) dX7_forgetHistories_1 rfl ⟨by decide, by decide⟩ ?_
  refine V.pz (pc := 2) (hi' := (upR hi 0 (updF (hi 0) 11 0))) 7 11 flX7_73 dX7_forgetHistories_2 (kS_0) (by decide) (by decide) rfl rfl (Or.inl rfl) u1 ?_
  refine V.aload_n (pc := 5) 0 dX7_forgetHistories_5 rfl ?_
  refine V.iconst (pc := 6) (z := 0) dX7_forgetHistories_6 rfl ⟨by decide, by decide⟩ ?_
  refine V.pz (pc := 7) (hi' := (upR hi 0 (updF (updF (hi 0) 11 0) 12 0))) 7 12 flX7_77 dX7_forgetHistories_7 (kS_0) (by decide) (by decide) rfl rfl (Or.inl rfl) u1 ?_
  refine V.vret (pc := 10) dX7_forgetHistories_10 rfl ?_
  exact hq

set_option maxRecDepth 100000 in
theorem c_X7_reckonHistories (hi hl : HI) (σ : SG) (m : Nat) (g : Nat → Int) (im : Nat → Option SG) (hR : RC hi hl (σ, m, g, im)) (Q : QT) (hq : ∀ hi' hl' : HI, FrC hi hl hi' hl' → RC hi' hl' (σ, m, g, im) → HQ (hS σ (-1)) (hi' 44) (hl' 52) (hi' 36) (hl' 36) → Q none KW hi' hl') : Con eX7_reckonHistories [vR 0] KW hi hl Q := by
  refine Con.ofV (by decide +kernel) (Nat.le_of_ble_eq_true rfl) ?_
  show V eX7_reckonHistories none KW 0 [(0, vR 0)] [] hi hl 0 0 Q
  obtain ⟨hT, hC, ⟨hm, hm2, hg5, hgr⟩, ⟨k0, k1, k2, k3⟩, hfr, hwo⟩ := RC_o hR
  subst hg5
  have hwf := hC.1
  have hn16 := hwf.2.2.1
  have hbg := hwf.2.2.2.2.1
  refine V.aload_n (pc := 0) 0 dX7_reckonHistories_0 rfl ?_
  refine V.gi (pc := 1) 7 11 (hi 0 11) flX7_73 dX7_reckonHistories_1 (kS_0) (by decide) (by decide) rfl (rfl) ?_
  refine V.if_eq (pc := 4) 8 dX7_reckonHistories_4 (by decide) (fun h4 => ?_) (fun h4 => ?_)
  · skip
    refine V.aload_n (pc := 8) 0 dX7_reckonHistories_8 rfl ?_
    refine V.gr (pc := 9) 7 6 33 flX7_48 dX7_reckonHistories_9 (kS_0) (by decide) (by decide) rfl (kR_0_6) ?_
    refine V.aload_n (pc := 12) 0 dX7_reckonHistories_12 rfl ?_
    refine V.gr (pc := 13) 7 3 10 flX7_33 dX7_reckonHistories_13 (kS_0) (by decide) (by decide) rfl (kR_0_3) ?_
    refine V.aload_n (pc := 16) 0 dX7_reckonHistories_16 rfl ?_
    refine V.gr (pc := 17) 7 0 1 flX7_10 dX7_reckonHistories_17 (kS_0) (by decide) (by decide) rfl (kR_0_0) ?_
    refine V.callV (pc := 20) (e1 := eX6_throughDays) (o := 33) (c := 6) 2 [vR 10, vR 1] [] mfX6_throughDays slX6_throughDays mlX7_124 dX7_reckonHistories_20 (kS_33) (by decide) rfl rfl rfl (Nat.le_of_ble_eq_true rfl) ⟨by decide, by decide, by decide, by decide⟩ ?_
    refine c_X6_throughDays hi hl hT σ hC _ (fun g33 g34 g35 hWD => ?_)
    refine V.qV (pc := 20) rfl rfl ?_
    refine V.hieq (hi' := (upR (upR (upR hi 35 g35) 34 g34) 33 g33)) ((upR_c ((upR_c r0).trans (rs (by decide) r0))).trans (rs (by decide) (rs (by decide) r0))) ?_
    refine V.aload_n (pc := 23) 0 dX7_reckonHistories_23 rfl ?_
    refine V.gr (pc := 24) 7 7 36 flX7_55 dX7_reckonHistories_24 (kS_0) (by decide) (by decide) rfl (kR_0_7) ?_
    refine V.aload_n (pc := 27) 0 dX7_reckonHistories_27 rfl ?_
    refine V.gr (pc := 28) 7 3 10 flX7_33 dX7_reckonHistories_28 (kS_0) (by decide) (by decide) rfl (kR_0_3) ?_
    refine V.aload_n (pc := 31) 0 dX7_reckonHistories_31 rfl ?_
    refine V.gr (pc := 32) 7 6 33 flX7_48 dX7_reckonHistories_32 (kS_0) (by decide) (by decide) rfl (kR_0_6) ?_
    refine V.gr (pc := 35) 6 1 35 flX7_128 dX7_reckonHistories_35 (kS_33) (by decide) (by decide) rfl (kR_33_1) ?_
    refine V.aload_n (pc := 38) 0 dX7_reckonHistories_38 rfl ?_
    refine V.gr (pc := 39) 7 0 1 flX7_10 dX7_reckonHistories_39 (kS_0) (by decide) (by decide) rfl (kR_0_0) ?_
    refine V.iconst (pc := 42) (z := (-1)) dX7_reckonHistories_42 rfl ⟨by decide, by decide⟩ ?_
    refine V.hieq (hi' := (upR (upR (blk (upR (upR (upR hi 35 g35) 34 g34) 33 g33) 38 (fun s => (upR (upR (upR hi 35 g35) 34 g34) 33 g33) (38 + s))) 53 ((upR (upR (upR hi 35 g35) 34 g34) 33 g33) 53)) 36 ((upR (upR (upR hi 35 g35) 34 g34) 33 g33) 36))) (by rw [blk_id, upR_id, upR_id]) ?_
    refine V.hleq (hl' := (upR (blk hl 46 (fun s => hl (46 + s))) 36 (hl 36))) (by rw [blk_id, upR_id]) ?_
    refine V.callV (pc := 43) (e1 := eX2_reckon) (o := 36) (c := 2) 4 [vR 10, vR 35, vR 1, vI (-1)] [] mfX2_reckon slX2_reckon mlX7_231 dX7_reckonHistories_43 (kS_36) (by decide) rfl rfl rfl (Nat.le_of_ble_eq_true rfl) ⟨by decide, by decide, by decide, by decide⟩ ?_
    refine c_X2_reckon_36 (upR (upR (upR hi 35 g35) 34 g34) 33 g33) hl _ _ _ _ _ hT σ hC (heardF σ) (fun j hj => hWD.2.2.1 j hj) (HOK_D hwf) (-1) _ (fun C' N' B' f' fl' hHQ => ?_)
    refine V.qV (pc := 43) rfl rfl ?_
    refine V.aload_n (pc := 46) 0 dX7_reckonHistories_46 rfl ?_
    refine V.iconst (pc := 47) (z := 1) dX7_reckonHistories_47 rfl ⟨by decide, by decide⟩ ?_
    refine V.pz (pc := 48) (hi' := (upR (upR (upR (blk (upR (upR (upR hi 35 g35) 34 g34) 33 g33) 38 C') 0 (updF ((upR (upR (upR hi 35 g35) 34 g34) 33 g33) 0) 11 1)) 53 (B')) 36 (f'))) 7 11 flX7_73 dX7_reckonHistories_48 (kS_0) (by decide) (by decide) rfl rfl (Or.inr rfl) (us (by decide) (us (by decide) u0)) ?_
    refine V.vret (pc := 51) dX7_reckonHistories_51 rfl ?_
    exact hq _ _ (by repeat (first | exact fr0 | refine fr1 (by decide) ?_ | refine fr2 (by decide) ?_ | refine fr3 (by decide) ?_ | refine fr4 (by decide) ?_)) (RC_i (hT) (hC) (hm) (hm2) (rfl) (hgr) (k0) (k1) (k2) (k3) (Or.inr ⟨rfl, hHQ⟩) (hwo)) hHQ
  · obtain ⟨hf1, hf2⟩ : hi 0 11 = 1 ∧ HQ (hS σ (-1)) (hi 44) (hl 52) (hi 36) (hl 36) := by rcases hfr with q | q; { exact absurd q h4 }; { exact q }
    refine V.vret (pc := 7) dX7_reckonHistories_7 rfl ?_
    exact hq _ _ fr0 hR hf2

set_option maxRecDepth 100000 in
theorem c_X7_reckonWithout (hi hl : HI) (σ : SG) (m : Nat) (g : Nat → Int) (im : Nat → Option SG) (hR : RC hi hl (σ, m, g, im)) (Q : QT) (hq : ∀ hi' hl' : HI, FrC hi hl hi' hl' → RC hi' hl' (σ, m, g, im) → (∀ b, b < 6 → hi' 72 b = fwF σ b) → Q none KW hi' hl') : Con eX7_reckonWithout [vR 0] KW hi hl Q := by
  refine Con.ofV (by decide +kernel) (Nat.le_of_ble_eq_true rfl) ?_
  show V eX7_reckonWithout none KW 0 [(0, vR 0)] [] hi hl 0 0 Q
  obtain ⟨hT, hC, ⟨hm, hm2, hg5, hgr⟩, ⟨k0, k1, k2, k3⟩, hfr, hwo⟩ := RC_o hR
  subst hg5
  have hwf := hC.1
  have hn16 := hwf.2.2.1
  have hbg := hwf.2.2.2.2.1
  refine V.aload_n (pc := 0) 0 dX7_reckonWithout_0 rfl ?_
  refine V.gi (pc := 1) 7 12 (hi 0 12) flX7_77 dX7_reckonWithout_1 (kS_0) (by decide) (by decide) rfl (rfl) ?_
  refine V.if_eq (pc := 4) 8 dX7_reckonWithout_4 (by decide) (fun h4 => ?_) (fun h4 => ?_)
  · skip
    refine V.aload_n (pc := 8) 0 dX7_reckonWithout_8 rfl ?_
    refine V.gr (pc := 9) 7 6 33 flX7_48 dX7_reckonWithout_9 (kS_0) (by decide) (by decide) rfl (kR_0_6) ?_
    refine V.aload_n (pc := 12) 0 dX7_reckonWithout_12 rfl ?_
    refine V.gr (pc := 13) 7 3 10 flX7_33 dX7_reckonWithout_13 (kS_0) (by decide) (by decide) rfl (kR_0_3) ?_
    refine V.aload_n (pc := 16) 0 dX7_reckonWithout_16 rfl ?_
    refine V.gr (pc := 17) 7 0 1 flX7_10 dX7_reckonWithout_17 (kS_0) (by decide) (by decide) rfl (kR_0_0) ?_
    refine V.callV (pc := 20) (e1 := eX6_throughDays) (o := 33) (c := 6) 2 [vR 10, vR 1] [] mfX6_throughDays slX6_throughDays mlX7_124 dX7_reckonWithout_20 (kS_33) (by decide) rfl rfl rfl (Nat.le_of_ble_eq_true rfl) ⟨by decide, by decide, by decide, by decide⟩ ?_
    refine c_X6_throughDays hi hl hT σ hC _ (fun g33 g34 g35 hWD => ?_)
    refine V.qV (pc := 20) rfl rfl ?_
    refine V.hieq (hi' := (upR (upR (upR hi 35 g35) 34 g34) 33 g33)) ((upR_c ((upR_c r0).trans (rs (by decide) r0))).trans (rs (by decide) (rs (by decide) r0))) ?_
    refine V.hieq (hi' := (upR (upR (upR (blk (upR (upR (upR hi 35 g35) 34 g34) 33 g33) 56 (fun s => (upR (upR (upR hi 35 g35) 34 g34) 33 g33) (56 + s))) 71 ((upR (upR (upR hi 35 g35) 34 g34) 33 g33) 71)) 54 ((upR (upR (upR hi 35 g35) 34 g34) 33 g33) 54)) 72 ((upR (upR (upR hi 35 g35) 34 g34) 33 g33) 72))) (by rw [blk_id, upR_id, upR_id, upR_id]) ?_
    refine V.hleq (hl' := (upR (blk hl 64 (fun s => hl (64 + s))) 54 (hl 54))) (by rw [blk_id, upR_id]) ?_
    refine V.iconst (pc := 23) (z := 0) dX7_reckonWithout_23 rfl ⟨by decide, by decide⟩ ?_
    refine V.istore_n (pc := 24) (i := 1) dX7_reckonWithout_24 rfl (by decide) (ls' := [(1, vI 0), (0, vR 0)]) rfl ?_
    have lp25 : ∀ (fu25 : Nat) (k : Nat) (C1 : HI) (N1 : HI) (B1 : Nat → Int) (f1 : Nat → Int) (fl1 : Nat → Int) (w : Nat → Int), (k ≤ 6) → (∀ b, b < k → w b = fwF σ b) → 6 - k < fu25 → V eX7_reckonWithout none KW 25 [(0, vR 0), (1, vI ((k : Nat) : Int))] [] (upR (upR (upR (blk (upR (upR (upR hi 35 g35) 34 g34) 33 g33) 56 C1) 71 B1) 54 f1) 72 w) (upR (blk hl 64 N1) 54 fl1) 0 0 Q := by
      intro fu25
      induction fu25 with
      | zero => intro k C1 N1 B1 f1 fl1 w hk h1 hm25; exact absurd hm25 (Nat.not_lt_zero _)
      | succ fu25 ih25 =>
        intro k C1 N1 B1 f1 fl1 w hk h1 hm25
        refine V.iload_n (pc := 25) 1 dX7_reckonWithout_25 rfl ?_
        refine V.bipush (pc := 26) (z := 6) dX7_reckonWithout_26 (by decide +kernel) ⟨by decide, by decide⟩ ?_
        refine V.icmp_ge (pc := 28) 98 dX7_reckonWithout_28 (by decide) (fun h28 => ?_) (fun h28 => ?_)
        · skip
          refine V.aload_n (pc := 98) 0 dX7_reckonWithout_98 rfl ?_
          refine V.iconst (pc := 99) (z := 1) dX7_reckonWithout_99 rfl ⟨by decide, by decide⟩ ?_
          refine V.pz (pc := 100) (hi' := (upR (upR (upR (upR (blk (upR (upR (upR hi 35 g35) 34 g34) 33 g33) 56 C1) 0 (updF ((upR (upR (upR hi 35 g35) 34 g34) 33 g33) 0) 12 1)) 71 B1) 54 f1) 72 w)) 7 12 flX7_77 dX7_reckonWithout_100 (kS_0) (by decide) (by decide) rfl rfl (Or.inr rfl) (us (by decide) (us (by decide) (us (by decide) u0))) ?_
          refine V.vret (pc := 103) dX7_reckonWithout_103 rfl ?_
          exact hq _ _ (by repeat (first | exact fr0 | refine fr1 (by decide) ?_ | refine fr2 (by decide) ?_ | refine fr3 (by decide) ?_ | refine fr4 (by decide) ?_)) (RC_i (hT) (hC) (hm) (hm2) (rfl) (hgr) (k0) (k1) (k2) (k3) (hfr) (Or.inr ⟨rfl, fun b hb => h1 b (by omega)⟩)) (fun b hb => h1 b (by omega))
        · skip
          refine V.aload_n (pc := 31) 0 dX7_reckonWithout_31 rfl ?_
          refine V.gr (pc := 32) 7 9 72 flX7_62 dX7_reckonWithout_32 (kS_0) (by decide) (by decide) rfl (kR_0_9) ?_
          refine V.iload_n (pc := 35) 1 dX7_reckonWithout_35 rfl ?_
          refine V.sipush (pc := 36) (z := 1000) dX7_reckonWithout_36 (by decide +kernel) ⟨by decide, by decide⟩ ?_
          refine V.is (pc := 39) (len := 6) (hi' := (upR (upR (upR (blk (upR (upR (upR hi 35 g35) 34 g34) 33 g33) 56 C1) 71 B1) 54 f1) 72 (updF w k 1000))) k dX7_reckonWithout_39 (kS_72) (rfl) (by omega) u1 ?_
          refine V.aload_n (pc := 40) 0 dX7_reckonWithout_40 rfl ?_
          refine V.gr (pc := 41) 7 3 10 flX7_33 dX7_reckonWithout_41 (kS_0) (by decide) (by decide) rfl (kR_0_3) ?_
          refine V.gr (pc := 44) 0 1 12 flX7_155 dX7_reckonWithout_44 (kS_10) (by decide) (by decide) rfl (kR_10_1) ?_
          refine V.iload_n (pc := 47) 1 dX7_reckonWithout_47 rfl ?_
          refine V.ia (pc := 48) (len := 6) k (encC (te σ k)) dX7_reckonWithout_48 (kS_12) (rfl) (by omega) (hC.2.2.1 k (by omega)) ?_
          refine V.iconst (pc := 49) (z := (-1)) dX7_reckonWithout_49 rfl ⟨by decide, by decide⟩ ?_
          refine V.icmp_ne (pc := 50) 56 dX7_reckonWithout_50 (by decide) (fun h50 => ?_) (fun h50 => ?_)
          · obtain ⟨w0, hw⟩ := encC_some h50
            refine V.aload_n (pc := 56) 0 dX7_reckonWithout_56 rfl ?_
            refine V.gr (pc := 57) 7 8 54 flX7_59 dX7_reckonWithout_57 (kS_0) (by decide) (by decide) rfl (kR_0_8) ?_
            refine V.aload_n (pc := 60) 0 dX7_reckonWithout_60 rfl ?_
            refine V.gr (pc := 61) 7 3 10 flX7_33 dX7_reckonWithout_61 (kS_0) (by decide) (by decide) rfl (kR_0_3) ?_
            refine V.aload_n (pc := 64) 0 dX7_reckonWithout_64 rfl ?_
            refine V.gr (pc := 65) 7 6 33 flX7_48 dX7_reckonWithout_65 (kS_0) (by decide) (by decide) rfl (kR_0_6) ?_
            refine V.gr (pc := 68) 6 1 35 flX7_128 dX7_reckonWithout_68 (kS_33) (by decide) (by decide) rfl (kR_33_1) ?_
            refine V.aload_n (pc := 71) 0 dX7_reckonWithout_71 rfl ?_
            refine V.gr (pc := 72) 7 0 1 flX7_10 dX7_reckonWithout_72 (kS_0) (by decide) (by decide) rfl (kR_0_0) ?_
            refine V.iload_n (pc := 75) 1 dX7_reckonWithout_75 rfl ?_
            refine V.hieq (hi' := (upR (upR (blk (upR (upR (upR (upR hi 35 g35) 34 g34) 33 g33) 72 (updF w k 1000)) 56 C1) 71 B1) 54 f1)) (rs (by decide) (rs (by decide) (upR_blk (by decide)))) ?_
            refine V.callV (pc := 76) (e1 := eX2_reckon) (o := 54) (c := 2) 4 [vR 10, vR 35, vR 1, vI ((k : Nat) : Int)] [] mfX2_reckon slX2_reckon mlX7_231 dX7_reckonWithout_76 (kS_54) (by decide) rfl rfl rfl (Nat.le_of_ble_eq_true rfl) ⟨by decide, by decide, by decide, by decide⟩ ?_
            refine c_X2_reckon_54 (upR (upR (upR (upR hi 35 g35) 34 g34) 33 g33) 72 (updF w k 1000)) hl C1 N1 B1 f1 fl1 hT σ hC (heardF σ) (fun j hj => hWD.2.2.1 j hj) (HOK_D hwf) ((k : Nat) : Int) _ (fun C' N' B' f' fl' hHQ => ?_)
            refine V.qV (pc := 76) rfl rfl ?_
            refine V.hieq (hi' := (upR (upR (upR (blk (upR (upR (upR hi 35 g35) 34 g34) 33 g33) 56 C') 71 (B')) 54 (f')) 72 (updF w k 1000))) (rs (by decide) (rs (by decide) (upR_blk (by decide)))).symm ?_
            refine V.aload_n (pc := 79) 0 dX7_reckonWithout_79 rfl ?_
            refine V.gr (pc := 80) 7 9 72 flX7_62 dX7_reckonWithout_80 (kS_0) (by decide) (by decide) rfl (kR_0_9) ?_
            refine V.iload_n (pc := 83) 1 dX7_reckonWithout_83 rfl ?_
            refine V.aload_n (pc := 84) 0 dX7_reckonWithout_84 rfl ?_
            refine V.gr (pc := 85) 7 8 54 flX7_59 dX7_reckonWithout_85 (kS_0) (by decide) (by decide) rfl (kR_0_8) ?_
            refine V.gi (pc := 88) 2 5 ((f') 5) flX7_164 dX7_reckonWithout_88 (kS_54) (by decide) (by decide) rfl (rfl) ?_
            refine V.is (pc := 91) (len := 6) (hi' := (upR (upR (upR (blk (upR (upR (upR hi 35 g35) 34 g34) 33 g33) 56 C') 71 (B')) 54 (f')) 72 (updF (updF w k 1000) k ((f') 5)))) k dX7_reckonWithout_91 (kS_72) (rfl) (by omega) u1 ?_
            refine V.iinc (pc := 92) (r := ((k + 1 : Nat) : Int)) 1 dX7_reckonWithout_92 rfl (w32_of (by omega) (by omega) (by omega)) (by decide) (ls' := [(1, vI ((k + 1 : Nat) : Int)), (0, vR 0)]) rfl ?_
            refine V.goto (pc := 95) 25 dX7_reckonWithout_95 (by decide) ?_
            refine V.locs [1, 0] (ls' := [(0, vR 0), (1, vI ((k + 1 : Nat) : Int))]) rfl ?_
            exact ih25 (k + 1) (C') (N') (B') (f') (fl') (updF (updF w k 1000) k ((f') 5)) (by omega) (fun b hb => by by_cases e : b = k; { rw [e, updF_s, fw_s hw]; exact hHQ.2.1 }; { rw [updF_n e, updF_n e]; exact h1 b (by omega) }) (by omega)
          · have htn : te σ k = none := encC_none.mp (by omega)
            refine V.goto (pc := 53) 92 dX7_reckonWithout_53 (by decide) ?_
            refine V.iinc (pc := 92) (r := ((k + 1 : Nat) : Int)) 1 dX7_reckonWithout_92 rfl (w32_of (by omega) (by omega) (by omega)) (by decide) (ls' := [(1, vI ((k + 1 : Nat) : Int)), (0, vR 0)]) rfl ?_
            refine V.goto (pc := 95) 25 dX7_reckonWithout_95 (by decide) ?_
            refine V.locs [1, 0] (ls' := [(0, vR 0), (1, vI ((k + 1 : Nat) : Int))]) rfl ?_
            exact ih25 (k + 1) C1 N1 B1 f1 fl1 (updF w k 1000) (by omega) (fun b hb => by by_cases e : b = k; { rw [e, updF_s, fw_n htn] }; { rw [updF_n e]; exact h1 b (by omega) }) (by omega)
    refine V.locs [1, 0] (ls' := [(0, vR 0), (1, vI 0)]) rfl ?_
    exact lp25 _ 0 (fun s => (upR (upR (upR hi 35 g35) 34 g34) 33 g33) (56 + s)) (fun s => hl (64 + s)) ((upR (upR (upR hi 35 g35) 34 g34) 33 g33) 71) ((upR (upR (upR hi 35 g35) 34 g34) 33 g33) 54) (hl 54) ((upR (upR (upR hi 35 g35) 34 g34) 33 g33) 72) (by omega) (fun b hb => absurd hb (Nat.not_lt_zero b)) (Nat.lt_succ_self _)
  · obtain ⟨hf1, hf2⟩ : hi 0 12 = 1 ∧ ∀ b, b < 6 → hi 72 b = fwF σ b := by rcases hwo with q | q; { exact absurd q h4 }; { exact q }
    refine V.vret (pc := 7) dX7_reckonWithout_7 rfl ?_
    exact hq _ _ fr0 hR hf2

set_option maxRecDepth 100000 in
theorem c_X7_prepareTelling (hi hl : HI) (σ : SG) (m : Nat) (g : Nat → Int) (im : Nat → Option SG) (hR : RC hi hl (σ, m, g, im)) (Q : QT) (hq : ∀ hi' hl' : HI, FrC hi hl hi' hl' → RC hi' hl' (σ, m, g, im) → TR hi' (nn σ) (rF σ (heardF σ)) (sF σ (heardF σ)) (hrF σ) → Q none KW hi' hl') : Con eX7_prepareTelling [vR 0] KW hi hl Q := by
  refine Con.ofV (by decide +kernel) (Nat.le_of_ble_eq_true rfl) ?_
  show V eX7_prepareTelling none KW 0 [(0, vR 0)] [] hi hl 0 0 Q
  obtain ⟨hT, hC, ⟨hm, hm2, hg5, hgr⟩, ⟨k0, k1, k2, k3⟩, hfr, hwo⟩ := RC_o hR
  subst hg5
  have hwf := hC.1
  have hn16 := hwf.2.2.1
  have hbg := hwf.2.2.2.2.1
  refine V.aload_n (pc := 0) 0 dX7_prepareTelling_0 rfl ?_
  refine V.gr (pc := 1) 7 6 33 flX7_48 dX7_prepareTelling_1 (kS_0) (by decide) (by decide) rfl (kR_0_6) ?_
  refine V.aload_n (pc := 4) 0 dX7_prepareTelling_4 rfl ?_
  refine V.gr (pc := 5) 7 3 10 flX7_33 dX7_prepareTelling_5 (kS_0) (by decide) (by decide) rfl (kR_0_3) ?_
  refine V.aload_n (pc := 8) 0 dX7_prepareTelling_8 rfl ?_
  refine V.gr (pc := 9) 7 0 1 flX7_10 dX7_prepareTelling_9 (kS_0) (by decide) (by decide) rfl (kR_0_0) ?_
  refine V.callV (pc := 12) (e1 := eX6_throughDays) (o := 33) (c := 6) 2 [vR 10, vR 1] [] mfX6_throughDays slX6_throughDays mlX7_124 dX7_prepareTelling_12 (kS_33) (by decide) rfl rfl rfl (Nat.le_of_ble_eq_true rfl) ⟨by decide, by decide, by decide, by decide⟩ ?_
  refine c_X6_throughDays hi hl hT σ hC _ (fun g33 g34 g35 hWD => ?_)
  refine V.qV (pc := 12) rfl rfl ?_
  refine V.hieq (hi' := (upR (upR (upR hi 35 g35) 34 g34) 33 g33)) ((upR_c ((upR_c r0).trans (rs (by decide) r0))).trans (rs (by decide) (rs (by decide) r0))) ?_
  refine V.aload_n (pc := 15) 0 dX7_prepareTelling_15 rfl ?_
  refine V.gr (pc := 16) 7 10 73 flX7_69 dX7_prepareTelling_16 (kS_0) (by decide) (by decide) rfl (kR_0_10) ?_
  refine V.aload_n (pc := 19) 0 dX7_prepareTelling_19 rfl ?_
  refine V.gr (pc := 20) 7 3 10 flX7_33 dX7_prepareTelling_20 (kS_0) (by decide) (by decide) rfl (kR_0_3) ?_
  refine V.aload_n (pc := 23) 0 dX7_prepareTelling_23 rfl ?_
  refine V.gr (pc := 24) 7 6 33 flX7_48 dX7_prepareTelling_24 (kS_0) (by decide) (by decide) rfl (kR_0_6) ?_
  refine V.gr (pc := 27) 6 1 35 flX7_128 dX7_prepareTelling_27 (kS_33) (by decide) (by decide) rfl (kR_33_1) ?_
  refine V.aload_n (pc := 30) 0 dX7_prepareTelling_30 rfl ?_
  refine V.gr (pc := 31) 7 6 33 flX7_48 dX7_prepareTelling_31 (kS_0) (by decide) (by decide) rfl (kR_0_6) ?_
  refine V.gr (pc := 34) 6 0 34 flX7_149 dX7_prepareTelling_34 (kS_33) (by decide) (by decide) rfl (kR_33_0) ?_
  refine V.callS (pc := 37) (e1 := eX7_birdsWithSaying) 1 [vR 34] [vR 35, vR 10, vR 73] mfX7_birdsWithSaying slX7_birdsWithSaying mlX7_227 dX7_prepareTelling_37 rfl rfl (Nat.le_of_ble_eq_true rfl) ⟨by decide, by decide, by decide, by decide⟩ ?_
  refine c_X7_birdsWithSaying KW (upR (upR (upR hi 35 g35) 34 g34) 33 g33) hl 34 (kS_34) _ ?_
  refine V.qI (pc := 37) rfl rfl ?_
  refine V.top (v' := vI ((hrF σ : Nat) : Int)) (congrArg (fun x : Nat => vI (x : Int)) (bw_congr (fun b hb => hWD.2.1 b hb))) ?_
  refine V.callV (pc := 40) (e1 := eX5_prepare) (o := 73) (c := 5) 3 [vR 10, vR 35, vI ((hrF σ : Nat) : Int)] [] mfX5_prepare slX5_prepare mlX7_235 dX7_prepareTelling_40 (kS_73) (by decide) rfl rfl rfl (Nat.le_of_ble_eq_true rfl) ⟨by decide, by decide, by decide, by decide⟩ ?_
  refine c_X5_prepare (upR (upR (upR hi 35 g35) 34 g34) 33 g33) hl σ hC (heardF σ) (fun j hj => hWD.2.2.1 j hj) (HOK_D hwf) (hrF σ) (hrF_lt σ) _ (fun g73 g74 g75 g76 hp1 hp2 hp3 => ?_)
  refine V.qV (pc := 40) rfl rfl ?_
  refine V.hieq (hi' := (upR (upR (upR (upR (upR (upR (upR hi 76 g76) 75 g75) 74 g74) 73 g73) 35 g35) 34 g34) 33 g33)) ((upR_c ((upR_c ((upR_c (rs (by decide) (rs (by decide) (rs (by decide) r0)))).trans (rs (by decide) (rs (by decide) (rs (by decide) (rs (by decide) r0)))))).trans (rs (by decide) (rs (by decide) (rs (by decide) (rs (by decide) (rs (by decide) r0))))))).trans (rs (by decide) (rs (by decide) (rs (by decide) (rs (by decide) (rs (by decide) (rs (by decide) r0))))))) ?_
  refine V.vret (pc := 43) dX7_prepareTelling_43 rfl ?_
  exact hq _ _ (by repeat (first | exact fr0 | refine fr1 (by decide) ?_ | refine fr2 (by decide) ?_ | refine fr3 (by decide) ?_ | refine fr4 (by decide) ?_)) (RC_i (hT) (hC) (hm) (hm2) (rfl) (hgr) (k0) (k1) (k2) (k3) (hfr) (hwo)) ⟨hp1, hp2, hn16, hrF_lt σ, fun p hp => ⟨(hp3 p hp).1, (hp3 p hp).2, rF_lt hwf hp, sF_le hwf hp⟩⟩

set_option maxRecDepth 100000 in
theorem c_X7_sort (hi hl : HI) (σ : SG) (m : Nat) (g : Nat → Int) (im : Nat → Option SG) (hR : RC hi hl (σ, m, g, im)) (b : Int) (v : Int) (Q : QT) (hq : ∀ hi' hl' : HI, FrC hi hl hi' hl' → RC hi' hl' (nSort (σ, m, g, im) b v) → Q (some (vI (aSort (σ, m, g, im) b v))) KW hi' hl') : Con eX7_sort [vR 0, vI b, vI v] KW hi hl Q := by
  refine Con.ofV (by decide +kernel) (Nat.le_of_ble_eq_true rfl) ?_
  show V eX7_sort none KW 0 [(0, vR 0), (1, vI b), (2, vI v)] [] hi hl 0 0 Q
  refine V.hieq (hi' := (upR hi 11 (hi 11))) (by rw [upR_id]) ?_
  obtain ⟨hT, hC, ⟨hm, hm2, hg5, hgr⟩, ⟨k0, k1, k2, k3⟩, hfr, hwo⟩ := RC_o hR
  subst hg5
  have hwf := hC.1
  have hn16 := hwf.2.2.1
  have hbg := hwf.2.2.2.2.1
  refine V.iload_n (pc := 0) 1 dX7_sort_0 rfl ?_
  refine V.callS (pc := 1) (e1 := eX7_isBird) 1 [vI b] [] mfX7_isBird slX7_isBird mlX7_80 dX7_sort_1 rfl rfl (Nat.le_of_ble_eq_true rfl) ⟨by decide, by decide, by decide, by decide⟩ ?_
  refine c_X7_isBird KW (upR hi 11 (hi 11)) hl b _ (fun hb => ?_) (fun hb => ?_)
  · skip
    refine V.qI (pc := 1) rfl rfl ?_
    refine V.if_ne (pc := 4) 9 dX7_sort_4 (by decide) (fun h4 => ?_) (fun hc => by exact absurd hc (by decide))
    refine V.iload_n (pc := 9) 2 dX7_sort_9 rfl ?_
    refine V.if_lt (pc := 10) 18 dX7_sort_10 (by decide) (fun h10 => ?_) (fun h10 => ?_)
    · skip
      refine V.bipush (pc := 18) (z := (-2)) dX7_sort_18 (by decide +kernel) ⟨by decide, by decide⟩ ?_
      refine V.iret (pc := 20) (z := (-2)) dX7_sort_20 rfl ?_
      have hA : aSort (σ, m, hi 5, im) b v = -2 := by
        unfold aSort
        try dsimp only [gσ, gm, gg, gi]
        refine (if_neg (by first | omega | assumption)).trans ?_
        refine (if_pos (by first | omega | assumption)).trans ?_
        rfl
      rw [hA] at hq
      have hN : nSort (σ, m, hi 5, im) b v = (σ, m, hi 5, im) := by
        unfold nSort
        try dsimp only [gσ, gm, gg, gi]
        refine (if_neg (by first | omega | assumption)).trans ?_
        rfl
      rw [hN] at hq
      exact hq _ _ (by repeat (first | exact fr0 | refine fr1 (by decide) ?_ | refine fr2 (by decide) ?_ | refine fr3 (by decide) ?_ | refine fr4 (by decide) ?_)) hR
    · skip
      refine V.iload_n (pc := 13) 2 dX7_sort_13 rfl ?_
      refine V.iconst (pc := 14) (z := 4) dX7_sort_14 rfl ⟨by decide, by decide⟩ ?_
      refine V.icmp_le (pc := 15) 21 dX7_sort_15 (by decide) (fun h15 => ?_) (fun h15 => ?_)
      · skip
        obtain ⟨n, rfl⟩ : ∃ n : Nat, b = (n : Int) := ⟨b.toNat, by omega⟩
        obtain ⟨w, rfl⟩ : ∃ w : Nat, v = (w : Int) := ⟨v.toNat, by omega⟩
        refine V.aload_n (pc := 21) 0 dX7_sort_21 rfl ?_
        refine V.gr (pc := 22) 7 3 10 flX7_33 dX7_sort_22 (kS_0) (by decide) (by decide) rfl (kR_0_3) ?_
        refine V.gr (pc := 25) 0 0 11 flX7_84 dX7_sort_25 (kS_10) (by decide) (by decide) rfl (kR_10_0) ?_
        refine V.iload_n (pc := 28) 1 dX7_sort_28 rfl ?_
        refine V.ia (pc := 29) (len := 6) n ((so σ n : Nat) : Int) dX7_sort_29 (kS_11) (rfl) (by omega) (hC.2.1 n (by omega)) ?_
        refine V.istore_n (pc := 30) (i := 3) dX7_sort_30 rfl (by decide) (ls' := [(3, vI ((so σ n : Nat) : Int)), (0, vR 0), (1, vI ((n : Nat) : Int)), (2, vI ((w : Nat) : Int))]) rfl ?_
        refine V.aload_n (pc := 31) 1 dX7_sort_31 rfl ?_
        refine V.gr (pc := 32) 7 3 10 flX7_33 dX7_sort_32 (kS_0) (by decide) (by decide) rfl (kR_0_3) ?_
        refine V.gr (pc := 35) 0 0 11 flX7_84 dX7_sort_35 (kS_10) (by decide) (by decide) rfl (kR_10_0) ?_
        refine V.iload_n (pc := 38) 2 dX7_sort_38 rfl ?_
        refine V.iload_n (pc := 39) 3 dX7_sort_39 rfl ?_
        refine V.is (pc := 40) (len := 6) (hi' := (upR hi 11 (updF (hi 11) n ((w : Nat) : Int)))) n dX7_sort_40 (kS_11) (rfl) (by omega) u1 ?_
        refine V.aload_n (pc := 41) 1 dX7_sort_41 rfl ?_
        refine V.callV (pc := 42) (e1 := eX7_forgetHistories) (o := 0) (c := 7) 0 [] [] mfX7_forgetHistories slX7_forgetHistories mlX7_87 dX7_sort_42 (kS_0) (by decide) rfl rfl rfl (Nat.le_of_ble_eq_true rfl) ⟨by decide, by decide, by decide, by decide⟩ ?_
        refine c_X7_forgetHistories (upR hi 11 (updF (hi 11) n ((w : Nat) : Int))) hl _ ?_
        refine V.qV (pc := 42) rfl rfl ?_
        refine V.hieq (hi' := (upR (upR hi 0 (updF (updF (hi 0) 11 0) 12 0)) 11 (updF (hi 11) n ((w : Nat) : Int)))) (rs (by decide) r0) ?_
        refine V.iload_n (pc := 45) 0 dX7_sort_45 rfl ?_
        refine V.iret (pc := 46) (z := ((so σ n : Nat) : Int)) dX7_sort_46 rfl ?_
        have hA : aSort (σ, m, hi 5, im) (n : Int) (w : Int) = (so σ n : Nat) := by
          unfold aSort
          try dsimp only [gσ, gm, gg, gi]
          refine (if_neg (by first | omega | assumption)).trans ?_
          refine (if_neg (by first | omega | assumption)).trans ?_
          rfl
        rw [hA] at hq
        have hN : nSort (σ, m, hi 5, im) (n : Int) (w : Int) = ((updF σ.1 n w, σ.2), m, hi 5, im) := by
          unfold nSort
          try dsimp only [gσ, gm, gg, gi]
          refine (if_pos (by first | omega | assumption)).trans ?_
          rfl
        rw [hN] at hq
        exact hq _ _ (by repeat (first | exact fr0 | refine fr1 (by decide) ?_ | refine fr2 (by decide) ?_ | refine fr3 (by decide) ?_ | refine fr4 (by decide) ?_)) (RC_i (hT) (CR_so hC (by omega) (by omega) rfl rfl rfl rfl rfl rfl rfl) (hm) (hm2) (rfl) (hgr) (k0) (k1) (k2) (k3) (Or.inl rfl) (Or.inl rfl))
      · skip
        refine V.bipush (pc := 18) (z := (-2)) dX7_sort_18 (by decide +kernel) ⟨by decide, by decide⟩ ?_
        refine V.iret (pc := 20) (z := (-2)) dX7_sort_20 rfl ?_
        have hA : aSort (σ, m, hi 5, im) b v = -2 := by
          unfold aSort
          try dsimp only [gσ, gm, gg, gi]
          refine (if_neg (by first | omega | assumption)).trans ?_
          refine (if_pos (by first | omega | assumption)).trans ?_
          rfl
        rw [hA] at hq
        have hN : nSort (σ, m, hi 5, im) b v = (σ, m, hi 5, im) := by
          unfold nSort
          try dsimp only [gσ, gm, gg, gi]
          refine (if_neg (by first | omega | assumption)).trans ?_
          rfl
        rw [hN] at hq
        exact hq _ _ (by repeat (first | exact fr0 | refine fr1 (by decide) ?_ | refine fr2 (by decide) ?_ | refine fr3 (by decide) ?_ | refine fr4 (by decide) ?_)) hR
  · skip
    refine V.qI (pc := 1) rfl rfl ?_
    refine V.if_ne (pc := 4) 9 dX7_sort_4 (by decide) (fun hc => by exact absurd hc (by decide)) (fun h4 => ?_)
    refine V.iconst (pc := 7) (z := (-1)) dX7_sort_7 rfl ⟨by decide, by decide⟩ ?_
    refine V.iret (pc := 8) (z := (-1)) dX7_sort_8 rfl ?_
    have hA : aSort (σ, m, hi 5, im) b v = -1 := by
      unfold aSort
      try dsimp only [gσ, gm, gg, gi]
      refine (if_pos (by first | omega | assumption)).trans ?_
      rfl
    rw [hA] at hq
    have hN : nSort (σ, m, hi 5, im) b v = (σ, m, hi 5, im) := by
      unfold nSort
      try dsimp only [gσ, gm, gg, gi]
      refine (if_neg (by first | omega | assumption)).trans ?_
      rfl
    rw [hN] at hq
    exact hq _ _ (by repeat (first | exact fr0 | refine fr1 (by decide) ?_ | refine fr2 (by decide) ?_ | refine fr3 (by decide) ?_ | refine fr4 (by decide) ?_)) hR

set_option maxRecDepth 100000 in
theorem c_X7_say (hi hl : HI) (σ : SG) (m : Nat) (g : Nat → Int) (im : Nat → Option SG) (hR : RC hi hl (σ, m, g, im)) (s : Int) (Q : QT) (hq : ∀ hi' hl' : HI, FrC hi hl hi' hl' → RC hi' hl' (nSay (σ, m, g, im) s) → Q (some (vI (aSay (σ, m, g, im) s))) KW hi' hl') : Con eX7_say [vR 0, vI s] KW hi hl Q := by
  refine Con.ofV (by decide +kernel) (Nat.le_of_ble_eq_true rfl) ?_
  show V eX7_say none KW 0 [(0, vR 0), (1, vI s)] [] hi hl 0 0 Q
  obtain ⟨hT, hC, ⟨hm, hm2, hg5, hgr⟩, ⟨k0, k1, k2, k3⟩, hfr, hwo⟩ := RC_o hR
  subst hg5
  have hwf := hC.1
  have hn16 := hwf.2.2.1
  have hbg := hwf.2.2.2.2.1
  refine V.iload_n (pc := 0) 1 dX7_say_0 rfl ?_
  refine V.bipush (pc := 1) (z := 33) dX7_say_1 (by decide +kernel) ⟨by decide, by decide⟩ ?_
  refine V.icmp_lt (pc := 3) 12 dX7_say_3 (by decide) (fun h3 => ?_) (fun h3 => ?_)
  · skip
    refine V.bipush (pc := 12) (z := (-2)) dX7_say_12 (by decide +kernel) ⟨by decide, by decide⟩ ?_
    refine V.iret (pc := 14) (z := (-2)) dX7_say_14 rfl ?_
    have hA : aSay (σ, m, hi 5, im) s = -2 := by
      unfold aSay
      try dsimp only [gσ, gm, gg, gi]
      refine (if_pos (by first | omega | assumption)).trans ?_
      rfl
    rw [hA] at hq
    have hN : nSay (σ, m, hi 5, im) s = (σ, m, hi 5, im) := by
      unfold nSay
      try dsimp only [gσ, gm, gg, gi]
      refine (if_neg (by first | omega | assumption)).trans ?_
      rfl
    rw [hN] at hq
    exact hq _ _ (by repeat (first | exact fr0 | refine fr1 (by decide) ?_ | refine fr2 (by decide) ?_ | refine fr3 (by decide) ?_ | refine fr4 (by decide) ?_)) hR
  · skip
    refine V.iload_n (pc := 6) 1 dX7_say_6 rfl ?_
    refine V.bipush (pc := 7) (z := 126) dX7_say_7 (by decide +kernel) ⟨by decide, by decide⟩ ?_
    refine V.icmp_le (pc := 9) 15 dX7_say_9 (by decide) (fun h9 => ?_) (fun h9 => ?_)
    · skip
      refine V.aload_n (pc := 15) 0 dX7_say_15 rfl ?_
      refine V.gr (pc := 16) 7 1 4 flX7_19 dX7_say_16 (kS_0) (by decide) (by decide) rfl (kR_0_1) ?_
      refine V.iload_n (pc := 19) 1 dX7_say_19 rfl ?_
      refine V.callV (pc := 20) (e1 := eX3_add) (o := 4) (c := 3) 1 [vI s] [] mfX3_add slX3_add mlX7_90 dX7_say_20 (kS_4) (by decide) rfl rfl rfl (Nat.le_of_ble_eq_true rfl) ⟨by decide, by decide, by decide, by decide⟩ ?_
      refine c_X3_add hi hl m hm s _ (fun hfu => ?_) (fun hfu => ?_)
      · skip
        refine V.qI (pc := 20) rfl rfl ?_
        refine V.if_eq (pc := 23) 36 dX7_say_23 (by decide) (fun h23 => ?_) (fun hc => by exact absurd hc (by decide))
        refine V.bipush (pc := 36) (z := (-4)) dX7_say_36 (by decide +kernel) ⟨by decide, by decide⟩ ?_
        refine V.iret (pc := 38) (z := (-4)) dX7_say_38 rfl ?_
        have hA : aSay (σ, m, hi 5, im) s = -4 := by
          unfold aSay
          try dsimp only [gσ, gm, gg, gi]
          refine (if_neg (by first | omega | assumption)).trans ?_
          refine (if_pos (by first | omega | assumption)).trans ?_
          rfl
        rw [hA] at hq
        have hN : nSay (σ, m, hi 5, im) s = (σ, m, hi 5, im) := by
          unfold nSay
          try dsimp only [gσ, gm, gg, gi]
          refine (if_neg (by first | omega | assumption)).trans ?_
          rfl
        rw [hN] at hq
        exact hq _ _ (by repeat (first | exact fr0 | refine fr1 (by decide) ?_ | refine fr2 (by decide) ?_ | refine fr3 (by decide) ?_ | refine fr4 (by decide) ?_)) hR
      · skip
        refine V.qI (pc := 20) rfl rfl ?_
        refine V.if_eq (pc := 23) 36 dX7_say_23 (by decide) (fun hc => by exact absurd hc (by decide)) (fun h23 => ?_)
        refine V.aload_n (pc := 26) 0 dX7_say_26 rfl ?_
        refine V.gr (pc := 27) 7 1 4 flX7_19 dX7_say_27 (kS_0) (by decide) (by decide) rfl (kR_0_1) ?_
        refine V.gi (pc := 30) 3 1 ((m + 1 : Nat) : Int) flX7_93 dX7_say_30 (kS_4) (by decide) (by decide) rfl (rfl) ?_
        refine V.goto (pc := 33) 38 dX7_say_33 (by decide) ?_
        refine V.iret (pc := 38) (z := ((m + 1 : Nat) : Int)) dX7_say_38 rfl ?_
        have hA : aSay (σ, m, hi 5, im) s = ((m + 1 : Nat) : Int) := by
          unfold aSay
          try dsimp only [gσ, gm, gg, gi]
          refine (if_neg (by first | omega | assumption)).trans ?_
          refine (if_neg (by first | omega | assumption)).trans ?_
          rfl
        rw [hA] at hq
        have hN : nSay (σ, m, hi 5, im) s = (σ, m + 1, updF (hi 5) m s, im) := by
          unfold nSay
          try dsimp only [gσ, gm, gg, gi]
          refine (if_pos (by first | omega | assumption)).trans ?_
          rfl
        rw [hN] at hq
        exact hq _ _ (by repeat (first | exact fr0 | refine fr1 (by decide) ?_ | refine fr2 (by decide) ?_ | refine fr3 (by decide) ?_ | refine fr4 (by decide) ?_)) (RC_i (hT) (hC) (by show updF (hi 4) 1 ((m + 1 : Nat) : Int) 1 = _; exact updF_s) (by omega) (rfl) (fun i hi' => by by_cases e : i = m; { subst e; show 33 ≤ updF (hi 5) i s i ∧ updF (hi 5) i s i ≤ 126; rw [updF_s]; omega }; { show 33 ≤ updF (hi 5) m s i ∧ updF (hi 5) m s i ≤ 126; rw [updF_n e]; exact hgr i (by omega) }) (k0) (k1) (k2) (k3) (hfr) (hwo))
    · skip
      refine V.bipush (pc := 12) (z := (-2)) dX7_say_12 (by decide +kernel) ⟨by decide, by decide⟩ ?_
      refine V.iret (pc := 14) (z := (-2)) dX7_say_14 rfl ?_
      have hA : aSay (σ, m, hi 5, im) s = -2 := by
        unfold aSay
        try dsimp only [gσ, gm, gg, gi]
        refine (if_pos (by first | omega | assumption)).trans ?_
        rfl
      rw [hA] at hq
      have hN : nSay (σ, m, hi 5, im) s = (σ, m, hi 5, im) := by
        unfold nSay
        try dsimp only [gσ, gm, gg, gi]
        refine (if_neg (by first | omega | assumption)).trans ?_
        rfl
      rw [hN] at hq
      exact hq _ _ (by repeat (first | exact fr0 | refine fr1 (by decide) ?_ | refine fr2 (by decide) ?_ | refine fr3 (by decide) ?_ | refine fr4 (by decide) ?_)) hR

set_option maxRecDepth 100000 in
theorem c_X7_wipe (hi hl : HI) (σ : SG) (m : Nat) (g : Nat → Int) (im : Nat → Option SG) (hR : RC hi hl (σ, m, g, im))  (Q : QT) (hq : ∀ hi' hl' : HI, FrC hi hl hi' hl' → RC hi' hl' (wipeG (σ, m, g, im) ) → Q (some (vI (aWipe (σ, m, g, im) ))) KW hi' hl') : Con eX7_wipe [vR 0] KW hi hl Q := by
  refine Con.ofV (by decide +kernel) (Nat.le_of_ble_eq_true rfl) ?_
  show V eX7_wipe none KW 0 [(0, vR 0)] [] hi hl 0 0 Q
  refine V.hieq (hi' := (upR hi 4 (hi 4))) (by rw [upR_id]) ?_
  obtain ⟨hT, hC, ⟨hm, hm2, hg5, hgr⟩, ⟨k0, k1, k2, k3⟩, hfr, hwo⟩ := RC_o hR
  subst hg5
  have hwf := hC.1
  have hn16 := hwf.2.2.1
  have hbg := hwf.2.2.2.2.1
  refine V.aload_n (pc := 0) 0 dX7_wipe_0 rfl ?_
  refine V.gr (pc := 1) 7 1 4 flX7_19 dX7_wipe_1 (kS_0) (by decide) (by decide) rfl (kR_0_1) ?_
  refine V.gi (pc := 4) 3 1 ((m : Nat) : Int) flX7_93 dX7_wipe_4 (kS_4) (by decide) (by decide) rfl (hm) ?_
  refine V.istore_n (pc := 7) (i := 1) dX7_wipe_7 rfl (by decide) (ls' := [(1, vI ((m : Nat) : Int)), (0, vR 0)]) rfl ?_
  refine V.aload_n (pc := 8) 1 dX7_wipe_8 rfl ?_
  refine V.gr (pc := 9) 7 1 4 flX7_19 dX7_wipe_9 (kS_0) (by decide) (by decide) rfl (kR_0_1) ?_
  refine V.iconst (pc := 12) (z := 0) dX7_wipe_12 rfl ⟨by decide, by decide⟩ ?_
  refine V.pi (pc := 13) (hi' := (upR hi 4 (updF (hi 4) 1 0))) 3 1 flX7_93 dX7_wipe_13 (kS_4) (by decide) (by decide) rfl rfl u1 ?_
  refine V.iload_n (pc := 16) 0 dX7_wipe_16 rfl ?_
  refine V.iret (pc := 17) (z := ((m : Nat) : Int)) dX7_wipe_17 rfl ?_
  exact hq _ _ (by repeat (first | exact fr0 | refine fr1 (by decide) ?_ | refine fr2 (by decide) ?_ | refine fr3 (by decide) ?_ | refine fr4 (by decide) ?_)) (RC_i (hT) (hC) (by show updF (hi 4) 1 0 1 = _; exact updF_s) (by omega) (rfl) (fun i hi' => absurd hi' (Nat.not_lt_zero i)) (k0) (k1) (k2) (k3) (hfr) (hwo))

set_option maxRecDepth 100000 in
theorem c_X7_fault (hi hl : HI) (σ : SG) (m : Nat) (g : Nat → Int) (im : Nat → Option SG) (hR : RC hi hl (σ, m, g, im)) (w : Int) (Q : QT) (hq : ∀ hi' hl' : HI, FrC hi hl hi' hl' → RC hi' hl' (σ, m, g, im) → Q (some (vI (aFault (σ, m, g, im) w))) KW hi' hl') : Con eX7_fault [vR 0, vI w] KW hi hl Q := by
  refine Con.ofV (by decide +kernel) (Nat.le_of_ble_eq_true rfl) ?_
  show V eX7_fault none KW 0 [(0, vR 0), (1, vI w)] [] hi hl 0 0 Q
  obtain ⟨hT, hC, ⟨hm, hm2, hg5, hgr⟩, ⟨k0, k1, k2, k3⟩, hfr, hwo⟩ := RC_o hR
  subst hg5
  have hwf := hC.1
  have hn16 := hwf.2.2.1
  have hbg := hwf.2.2.2.2.1
  refine V.iload_n (pc := 0) 1 dX7_fault_0 rfl ?_
  refine V.if_ne (pc := 1) 16 dX7_fault_1 (by decide) (fun h1 => ?_) (fun h1 => ?_)
  · skip
    refine V.iload_n (pc := 16) 1 dX7_fault_16 rfl ?_
    refine V.iconst (pc := 17) (z := 1) dX7_fault_17 rfl ⟨by decide, by decide⟩ ?_
    refine V.icmp_ne (pc := 18) 29 dX7_fault_18 (by decide) (fun h18 => ?_) (fun h18 => ?_)
    · skip
      refine V.bipush (pc := 29) (z := (-2)) dX7_fault_29 (by decide +kernel) ⟨by decide, by decide⟩ ?_
      refine V.iret (pc := 31) (z := (-2)) dX7_fault_31 rfl ?_
      have hA : aFault (σ, m, hi 5, im) w = -2 := by
        unfold aFault
        try dsimp only [gσ, gm, gg, gi]
        refine (if_neg (by first | omega | assumption)).trans ?_
        refine (if_neg (by first | omega | assumption)).trans ?_
        rfl
      rw [hA] at hq
      exact hq _ _ (by repeat (first | exact fr0 | refine fr1 (by decide) ?_ | refine fr2 (by decide) ?_ | refine fr3 (by decide) ?_ | refine fr4 (by decide) ?_)) hR
    · skip
      refine V.aload_n (pc := 21) 0 dX7_fault_21 rfl ?_
      refine V.gr (pc := 22) 7 1 4 flX7_19 dX7_fault_22 (kS_0) (by decide) (by decide) rfl (kR_0_1) ?_
      refine V.callV (pc := 25) (e1 := eX3_sayingFault) (o := 4) (c := 3) 0 [] [] mfX3_sayingFault slX3_sayingFault mlX7_101 dX7_fault_25 (kS_4) (by decide) rfl rfl rfl (Nat.le_of_ble_eq_true rfl) ⟨by decide, by decide, by decide, by decide⟩ ?_
      refine c_X3_sayingFault hi hl m (hm) hm2 _ ?_
      refine V.qI (pc := 25) rfl rfl ?_
      refine V.iret (pc := 28) (z := (sayF (hi 5) m)) dX7_fault_28 rfl ?_
      have hA : aFault (σ, m, hi 5, im) w = sayF (hi 5) m := by
        unfold aFault
        try dsimp only [gσ, gm, gg, gi]
        refine (if_neg (by first | omega | assumption)).trans ?_
        refine (if_pos (by first | omega | assumption)).trans ?_
        rfl
      rw [hA] at hq
      exact hq _ _ (by repeat (first | exact fr0 | refine fr1 (by decide) ?_ | refine fr2 (by decide) ?_ | refine fr3 (by decide) ?_ | refine fr4 (by decide) ?_)) hR
  · skip
    refine V.aload_n (pc := 4) 0 dX7_fault_4 rfl ?_
    refine V.gr (pc := 5) 7 1 4 flX7_19 dX7_fault_5 (kS_0) (by decide) (by decide) rfl (kR_0_1) ?_
    refine V.aload_n (pc := 8) 0 dX7_fault_8 rfl ?_
    refine V.gr (pc := 9) 7 2 6 flX7_26 dX7_fault_9 (kS_0) (by decide) (by decide) rfl (kR_0_2) ?_
    refine V.callV (pc := 12) (e1 := eX3_readDays) (o := 4) (c := 3) 1 [vR 6] [] mfX3_readDays slX3_readDays mlX7_97 dX7_fault_12 (kS_4) (by decide) rfl rfl rfl (Nat.le_of_ble_eq_true rfl) ⟨by decide, by decide, by decide, by decide⟩ ?_
    refine c_X3_readDays hi hl m hm hm2 hgr _ (fun hdf P A B D => ?_) (fun hdf P A B D hAg => ?_)
    · skip
      refine V.qI (pc := 12) rfl rfl ?_
      refine V.iret (pc := 15) (z := (dayF (hi 5) m)) dX7_fault_15 rfl ?_
      have hA : aFault (σ, m, hi 5, im) w = dayF (hi 5) m := by
        unfold aFault
        try dsimp only [gσ, gm, gg, gi]
        refine (if_pos (by first | omega | assumption)).trans ?_
        rfl
      rw [hA] at hq
      exact hq _ _ (by repeat (first | exact fr0 | refine fr1 (by decide) ?_ | refine fr2 (by decide) ?_ | refine fr3 (by decide) ?_ | refine fr4 (by decide) ?_)) (RC_i (hT) (hC) (hm) (hm2) (rfl) (hgr) (k0) (k1) (k2) (k3) (hfr) (hwo))
    · skip
      refine V.qI (pc := 12) rfl rfl ?_
      refine V.iret (pc := 15) (z := (-6)) dX7_fault_15 rfl ?_
      have hA : aFault (σ, m, hi 5, im) w = -6 := by
        unfold aFault
        try dsimp only [gσ, gm, gg, gi]
        refine (if_pos (by first | omega | assumption)).trans ?_
        exact hdf
      rw [hA] at hq
      exact hq _ _ (by repeat (first | exact fr0 | refine fr1 (by decide) ?_ | refine fr2 (by decide) ?_ | refine fr3 (by decide) ?_ | refine fr4 (by decide) ?_)) (RC_i (hT) (hC) (hm) (hm2) (rfl) (hgr) (k0) (k1) (k2) (k3) (hfr) (hwo))

set_option maxRecDepth 100000 in
theorem c_X7_days (hi hl : HI) (σ : SG) (m : Nat) (g : Nat → Int) (im : Nat → Option SG) (hR : RC hi hl (σ, m, g, im))  (Q : QT) (hq : ∀ hi' hl' : HI, FrC hi hl hi' hl' → RC hi' hl' (nDays (σ, m, g, im) ) → Q (some (vI (aDays (σ, m, g, im) ))) KW hi' hl') : Con eX7_days [vR 0] KW hi hl Q := by
  refine Con.ofV (by decide +kernel) (Nat.le_of_ble_eq_true rfl) ?_
  show V eX7_days none KW 0 [(0, vR 0)] [] hi hl 0 0 Q
  obtain ⟨hT, hC, ⟨hm, hm2, hg5, hgr⟩, ⟨k0, k1, k2, k3⟩, hfr, hwo⟩ := RC_o hR
  subst hg5
  have hwf := hC.1
  have hn16 := hwf.2.2.1
  have hbg := hwf.2.2.2.2.1
  refine V.aload_n (pc := 0) 0 dX7_days_0 rfl ?_
  refine V.gr (pc := 1) 7 1 4 flX7_19 dX7_days_1 (kS_0) (by decide) (by decide) rfl (kR_0_1) ?_
  refine V.aload_n (pc := 4) 0 dX7_days_4 rfl ?_
  refine V.gr (pc := 5) 7 2 6 flX7_26 dX7_days_5 (kS_0) (by decide) (by decide) rfl (kR_0_2) ?_
  refine V.callV (pc := 8) (e1 := eX3_readDays) (o := 4) (c := 3) 1 [vR 6] [] mfX3_readDays slX3_readDays mlX7_97 dX7_days_8 (kS_4) (by decide) rfl rfl rfl (Nat.le_of_ble_eq_true rfl) ⟨by decide, by decide, by decide, by decide⟩ ?_
  refine c_X3_readDays hi hl m hm hm2 hgr _ (fun hdf P A B D => ?_) (fun hdf P A B D hAg => ?_)
  · skip
    refine V.qI (pc := 8) rfl rfl ?_
    refine V.bipush (pc := 11) (z := (-6)) dX7_days_11 (by decide +kernel) ⟨by decide, by decide⟩ ?_
    refine V.icmp_eq (pc := 13) 19 dX7_days_13 (by decide) (fun hc => by exfalso; omega) (fun h13 => ?_)
    refine V.bipush (pc := 16) (z := (-5)) dX7_days_16 (by decide +kernel) ⟨by decide, by decide⟩ ?_
    refine V.iret (pc := 18) (z := (-5)) dX7_days_18 rfl ?_
    have hA : aDays (σ, m, hi 5, im)  = -5 := by
      unfold aDays
      try dsimp only [gσ, gm, gg, gi]
      refine (if_pos (by first | omega | assumption)).trans ?_
      rfl
    rw [hA] at hq
    have hN : nDays (σ, m, hi 5, im)  = (σ, m, hi 5, im) := by
      unfold nDays
      try dsimp only [gσ, gm, gg, gi]
      refine (if_pos (by first | omega | assumption)).trans ?_
      rfl
    rw [hN] at hq
    exact hq _ _ (by repeat (first | exact fr0 | refine fr1 (by decide) ?_ | refine fr2 (by decide) ?_ | refine fr3 (by decide) ?_ | refine fr4 (by decide) ?_)) (RC_i (hT) (hC) (hm) (hm2) (rfl) (hgr) (k0) (k1) (k2) (k3) (hfr) (hwo))
  · skip
    refine V.qI (pc := 8) rfl rfl ?_
    refine V.bipush (pc := 11) (z := (-6)) dX7_days_11 (by decide +kernel) ⟨by decide, by decide⟩ ?_
    refine V.icmp_eq (pc := 13) 19 dX7_days_13 (by decide) (fun h13 => ?_) (fun hc => by exact absurd hc (by decide))
    refine V.aload_n (pc := 19) 0 dX7_days_19 rfl ?_
    refine V.gr (pc := 20) 7 3 10 flX7_33 dX7_days_20 (kS_0) (by decide) (by decide) rfl (kR_0_3) ?_
    refine V.gr (pc := 23) 0 2 13 flX7_105 dX7_days_23 (kS_10) (by decide) (by decide) rfl (kR_10_2) ?_
    refine V.aload_n (pc := 26) 0 dX7_days_26 rfl ?_
    refine V.gr (pc := 27) 7 2 6 flX7_26 dX7_days_27 (kS_0) (by decide) (by decide) rfl (kR_0_2) ?_
    refine V.callV (pc := 30) (e1 := eX1_copy) (o := 13) (c := 1) 1 [vR 6] [] mfX1_copy slX1_copy mlX7_108 dX7_days_30 (kS_13) (by decide) rfl rfl rfl (Nat.le_of_ble_eq_true rfl) ⟨by decide, by decide, by decide, by decide⟩ ?_
    refine c_X1_copy_13_6 (upR (upR (upR (upR hi 6 P) 7 A) 8 B) 9 D) hl _ (fun d1 d2 d3 hDc => ?_)
    refine V.qV (pc := 30) rfl rfl ?_
    refine V.hieq (hi' := (upR (upR (upR (upR (upR (upR (upR (upR hi 14 d1) 15 d2) 16 d3) 13 (updF (hi 13) 3 (P 3))) 6 P) 7 A) 8 B) 9 D)) ((upR_c ((upR_c ((upR_c (rs (by decide) (rs (by decide) (rs (by decide) (rs (by decide) r0))))).trans (rs (by decide) (rs (by decide) (rs (by decide) (rs (by decide) (rs (by decide) r0))))))).trans (rs (by decide) (rs (by decide) (rs (by decide) (rs (by decide) (rs (by decide) (rs (by decide) r0)))))))).trans (rs (by decide) (rs (by decide) (rs (by decide) (rs (by decide) (rs (by decide) (rs (by decide) (rs (by decide) r0)))))))) ?_
    refine V.aload_n (pc := 33) 0 dX7_days_33 rfl ?_
    refine V.gr (pc := 34) 7 1 4 flX7_19 dX7_days_34 (kS_0) (by decide) (by decide) rfl (kR_0_1) ?_
    refine V.iconst (pc := 37) (z := 0) dX7_days_37 rfl ⟨by decide, by decide⟩ ?_
    refine V.pi (pc := 38) (hi' := (upR (upR (upR (upR (upR (upR (upR (upR (upR hi 4 (updF (hi 4) 1 0)) 14 d1) 15 d2) 16 d3) 13 (updF (hi 13) 3 (P 3))) 6 P) 7 A) 8 B) 9 D)) 3 1 flX7_93 dX7_days_38 (kS_4) (by decide) (by decide) rfl rfl (us (by decide) (us (by decide) (us (by decide) (us (by decide) (us (by decide) (us (by decide) (us (by decide) (us (by decide) u0)))))))) ?_
    refine V.aload_n (pc := 41) 0 dX7_days_41 rfl ?_
    refine V.callV (pc := 42) (e1 := eX7_forgetHistories) (o := 0) (c := 7) 0 [] [] mfX7_forgetHistories slX7_forgetHistories mlX7_87 dX7_days_42 (kS_0) (by decide) rfl rfl rfl (Nat.le_of_ble_eq_true rfl) ⟨by decide, by decide, by decide, by decide⟩ ?_
    refine c_X7_forgetHistories (upR (upR (upR (upR (upR (upR (upR (upR (upR hi 4 (updF (hi 4) 1 0)) 14 d1) 15 d2) 16 d3) 13 (updF (hi 13) 3 (P 3))) 6 P) 7 A) 8 B) 9 D) hl _ ?_
    refine V.qV (pc := 42) rfl rfl ?_
    refine V.hieq (hi' := (upR (upR (upR (upR (upR (upR (upR (upR (upR (upR hi 0 (updF (updF (hi 0) 11 0) 12 0)) 4 (updF (hi 4) 1 0)) 14 d1) 15 d2) 16 d3) 13 (updF (hi 13) 3 (P 3))) 6 P) 7 A) 8 B) 9 D)) (rs (by decide) (rs (by decide) (rs (by decide) (rs (by decide) (rs (by decide) (rs (by decide) (rs (by decide) (rs (by decide) (rs (by decide) r0))))))))) ?_
    refine V.aload_n (pc := 45) 0 dX7_days_45 rfl ?_
    refine V.gr (pc := 46) 7 3 10 flX7_33 dX7_days_46 (kS_0) (by decide) (by decide) rfl (kR_0_3) ?_
    refine V.gr (pc := 49) 0 2 13 flX7_105 dX7_days_49 (kS_10) (by decide) (by decide) rfl (kR_10_2) ?_
    refine V.gi (pc := 52) 1 3 (((dF (hi 5) m).2.2.2.1 : Nat) : Int) flX7_112 dX7_days_52 (kS_13) (by decide) (by decide) rfl (hAg.1) ?_
    refine V.iret (pc := 55) (z := (((dF (hi 5) m).2.2.2.1 : Nat) : Int)) dX7_days_55 rfl ?_
    have hA : aDays (σ, m, hi 5, im)  = ((dF (hi 5) m).2.2.2.1 : Nat) := by
      unfold aDays
      try dsimp only [gσ, gm, gg, gi]
      refine (if_neg (by first | omega | assumption)).trans ?_
      rfl
    rw [hA] at hq
    have hN : nDays (σ, m, hi 5, im)  = (dSG σ (hi 5) m, 0, hi 5, im) := by
      unfold nDays
      try dsimp only [gσ, gm, gg, gi]
      refine (if_neg (by first | omega | assumption)).trans ?_
      rfl
    rw [hN] at hq
    exact hq _ _ (by repeat (first | exact fr0 | refine fr1 (by decide) ?_ | refine fr2 (by decide) ?_ | refine fr3 (by decide) ?_ | refine fr4 (by decide) ?_)) (RC_i (hT) (CR_days hwf hC hdf hAg.2 hDc hAg.1 rfl rfl rfl rfl rfl rfl rfl) (by show updF (hi 4) 1 0 1 = _; exact updF_s) (by omega) (rfl) (fun i hi' => absurd hi' (Nat.not_lt_zero i)) (k0) (k1) (k2) (k3) (Or.inl rfl) (Or.inl rfl))

set_option maxRecDepth 100000 in
theorem c_X7_part (hi hl : HI) (σ : SG) (m : Nat) (g : Nat → Int) (im : Nat → Option SG) (hR : RC hi hl (σ, m, g, im)) (p : Int) (w : Int) (Q : QT) (hq : ∀ hi' hl' : HI, FrC hi hl hi' hl' → RC hi' hl' (σ, m, g, im) → Q (some (vI (aPart (σ, m, g, im) p w))) KW hi' hl') : Con eX7_part [vR 0, vI p, vI w] KW hi hl Q := by
  refine Con.ofV (by decide +kernel) (Nat.le_of_ble_eq_true rfl) ?_
  show V eX7_part none KW 0 [(0, vR 0), (1, vI p), (2, vI w)] [] hi hl 0 0 Q
  obtain ⟨hT, hC, ⟨hm, hm2, hg5, hgr⟩, ⟨k0, k1, k2, k3⟩, hfr, hwo⟩ := RC_o hR
  subst hg5
  have hwf := hC.1
  have hn16 := hwf.2.2.1
  have hbg := hwf.2.2.2.2.1
  refine V.iload_n (pc := 0) 1 dX7_part_0 rfl ?_
  refine V.if_lt (pc := 1) 24 dX7_part_1 (by decide) (fun h1 => ?_) (fun h1 => ?_)
  · skip
    refine V.iconst (pc := 24) (z := (-1)) dX7_part_24 rfl ⟨by decide, by decide⟩ ?_
    refine V.iret (pc := 25) (z := (-1)) dX7_part_25 rfl ?_
    have hA : aPart (σ, m, hi 5, im) p w = -1 := by
      unfold aPart
      try dsimp only [gσ, gm, gg, gi]
      refine (if_pos (by first | omega | assumption)).trans ?_
      rfl
    rw [hA] at hq
    exact hq _ _ (by repeat (first | exact fr0 | refine fr1 (by decide) ?_ | refine fr2 (by decide) ?_ | refine fr3 (by decide) ?_ | refine fr4 (by decide) ?_)) hR
  · skip
    refine V.iload_n (pc := 4) 1 dX7_part_4 rfl ?_
    refine V.aload_n (pc := 5) 0 dX7_part_5 rfl ?_
    refine V.gr (pc := 6) 7 3 10 flX7_33 dX7_part_6 (kS_0) (by decide) (by decide) rfl (kR_0_3) ?_
    refine V.gr (pc := 9) 0 2 13 flX7_105 dX7_part_9 (kS_10) (by decide) (by decide) rfl (kR_10_2) ?_
    refine V.gi (pc := 12) 1 3 ((nn σ : Nat) : Int) flX7_112 dX7_part_12 (kS_13) (by decide) (by decide) rfl (hC.2.2.2.1) ?_
    refine V.icmp_ge (pc := 15) 24 dX7_part_15 (by decide) (fun h15 => ?_) (fun h15 => ?_)
    · skip
      refine V.iconst (pc := 24) (z := (-1)) dX7_part_24 rfl ⟨by decide, by decide⟩ ?_
      refine V.iret (pc := 25) (z := (-1)) dX7_part_25 rfl ?_
      have hA : aPart (σ, m, hi 5, im) p w = -1 := by
        unfold aPart
        try dsimp only [gσ, gm, gg, gi]
        refine (if_pos (by first | omega | assumption)).trans ?_
        rfl
      rw [hA] at hq
      exact hq _ _ (by repeat (first | exact fr0 | refine fr1 (by decide) ?_ | refine fr2 (by decide) ?_ | refine fr3 (by decide) ?_ | refine fr4 (by decide) ?_)) hR
    · skip
      refine V.iload_n (pc := 18) 1 dX7_part_18 rfl ?_
      refine V.bipush (pc := 19) (z := 16) dX7_part_19 (by decide +kernel) ⟨by decide, by decide⟩ ?_
      refine V.icmp_lt (pc := 21) 26 dX7_part_21 (by decide) (fun h21 => ?_) (fun h21 => ?_)
      · skip
        have hp0 : 0 ≤ p ∧ p < (nn σ : Nat) ∧ p < 16 := by omega
        obtain ⟨n, rfl⟩ : ∃ n : Nat, p = (n : Int) := ⟨p.toNat, by omega⟩
        refine V.iload_n (pc := 26) 2 dX7_part_26 rfl ?_
        by_cases hts27 : w < 0 ∨ 3 < w
        · refine V.tabOut (pc := 27) 128 dX7_part_27 hts27 (by decide) ?_
          refine V.bipush (pc := 128) (z := (-2)) dX7_part_128 (by decide +kernel) ⟨by decide, by decide⟩ ?_
          refine V.iret (pc := 130) (z := (-2)) dX7_part_130 rfl ?_
          have hA : aPart (σ, m, hi 5, im) (n : Int) w = -2 := by
            unfold aPart
            try dsimp only [gσ, gm, gg, gi]
            refine (if_neg (by first | omega | assumption)).trans ?_
            refine (if_neg (by first | omega | assumption)).trans ?_
            refine (if_neg (by first | omega | assumption)).trans ?_
            refine (if_neg (by first | omega | assumption)).trans ?_
            refine (if_neg (by first | omega | assumption)).trans ?_
            rfl
          rw [hA] at hq
          exact hq _ _ (by repeat (first | exact fr0 | refine fr1 (by decide) ?_ | refine fr2 (by decide) ?_ | refine fr3 (by decide) ?_ | refine fr4 (by decide) ?_)) hR
        · have htr27 : w = 0 ∨ w = 1 ∨ w = 2 ∨ w = 3 := by omega
          rcases htr27 with hc27 | hc27 | hc27 | hc27
          · refine V.tabIn (pc := 27) 0 56 dX7_part_27 (by omega) (by omega) rfl (by decide) ?_
            refine V.aload_n (pc := 56) 0 dX7_part_56 rfl ?_
            refine V.gr (pc := 57) 7 3 10 flX7_33 dX7_part_57 (kS_0) (by decide) (by decide) rfl (kR_0_3) ?_
            refine V.gr (pc := 60) 0 2 13 flX7_105 dX7_part_60 (kS_10) (by decide) (by decide) rfl (kR_10_2) ?_
            refine V.gr (pc := 63) 1 0 14 flX7_115 dX7_part_63 (kS_13) (by decide) (by decide) rfl (kR_13_0) ?_
            refine V.iload_n (pc := 66) 1 dX7_part_66 rfl ?_
            refine V.ia (pc := 67) (len := 16) n ((sp' σ n : Nat) : Int) dX7_part_67 (kS_14) (rfl) (by omega) ((hC.2.2.2.2.1 n (by omega)).1) ?_
            refine V.iret (pc := 68) (z := ((sp' σ n : Nat) : Int)) dX7_part_68 rfl ?_
            have hA : aPart (σ, m, hi 5, im) (n : Int) w = (sp' σ n : Nat) := by
              unfold aPart
              try dsimp only [gσ, gm, gg, gi]
              refine (if_neg (by first | omega | assumption)).trans ?_
              refine (if_pos (by first | omega | assumption)).trans ?_
              rfl
            rw [hA] at hq
            exact hq _ _ (by repeat (first | exact fr0 | refine fr1 (by decide) ?_ | refine fr2 (by decide) ?_ | refine fr3 (by decide) ?_ | refine fr4 (by decide) ?_)) hR
          · refine V.tabIn (pc := 27) 1 69 dX7_part_27 (by omega) (by omega) rfl (by decide) ?_
            refine V.aload_n (pc := 69) 0 dX7_part_69 rfl ?_
            refine V.gr (pc := 70) 7 3 10 flX7_33 dX7_part_70 (kS_0) (by decide) (by decide) rfl (kR_0_3) ?_
            refine V.gr (pc := 73) 0 2 13 flX7_105 dX7_part_73 (kS_10) (by decide) (by decide) rfl (kR_10_2) ?_
            refine V.gr (pc := 76) 1 1 15 flX7_118 dX7_part_76 (kS_13) (by decide) (by decide) rfl (kR_13_1) ?_
            refine V.iload_n (pc := 79) 1 dX7_part_79 rfl ?_
            refine V.ia (pc := 80) (len := 16) n ((he σ n : Nat) : Int) dX7_part_80 (kS_15) (rfl) (by omega) ((hC.2.2.2.2.1 n (by omega)).2.1) ?_
            refine V.iret (pc := 81) (z := ((he σ n : Nat) : Int)) dX7_part_81 rfl ?_
            have hA : aPart (σ, m, hi 5, im) (n : Int) w = (he σ n : Nat) := by
              unfold aPart
              try dsimp only [gσ, gm, gg, gi]
              refine (if_neg (by first | omega | assumption)).trans ?_
              refine (if_neg (by first | omega | assumption)).trans ?_
              refine (if_pos (by first | omega | assumption)).trans ?_
              rfl
            rw [hA] at hq
            exact hq _ _ (by repeat (first | exact fr0 | refine fr1 (by decide) ?_ | refine fr2 (by decide) ?_ | refine fr3 (by decide) ?_ | refine fr4 (by decide) ?_)) hR
          · refine V.tabIn (pc := 27) 2 82 dX7_part_27 (by omega) (by omega) rfl (by decide) ?_
            refine V.aload_n (pc := 82) 0 dX7_part_82 rfl ?_
            refine V.gr (pc := 83) 7 3 10 flX7_33 dX7_part_83 (kS_0) (by decide) (by decide) rfl (kR_0_3) ?_
            refine V.gr (pc := 86) 0 2 13 flX7_105 dX7_part_86 (kS_10) (by decide) (by decide) rfl (kR_10_2) ?_
            refine V.gr (pc := 89) 1 2 16 flX7_121 dX7_part_89 (kS_13) (by decide) (by decide) rfl (kR_13_2) ?_
            refine V.iload_n (pc := 92) 1 dX7_part_92 rfl ?_
            refine V.ia (pc := 93) (len := 16) n ((di σ n : Nat) : Int) dX7_part_93 (kS_16) (rfl) (by omega) ((hC.2.2.2.2.1 n (by omega)).2.2) ?_
            refine V.iret (pc := 94) (z := ((di σ n : Nat) : Int)) dX7_part_94 rfl ?_
            have hA : aPart (σ, m, hi 5, im) (n : Int) w = (di σ n : Nat) := by
              unfold aPart
              try dsimp only [gσ, gm, gg, gi]
              refine (if_neg (by first | omega | assumption)).trans ?_
              refine (if_neg (by first | omega | assumption)).trans ?_
              refine (if_neg (by first | omega | assumption)).trans ?_
              refine (if_pos (by first | omega | assumption)).trans ?_
              rfl
            rw [hA] at hq
            exact hq _ _ (by repeat (first | exact fr0 | refine fr1 (by decide) ?_ | refine fr2 (by decide) ?_ | refine fr3 (by decide) ?_ | refine fr4 (by decide) ?_)) hR
          · refine V.tabIn (pc := 27) 3 95 dX7_part_27 (by omega) (by omega) rfl (by decide) ?_
            refine V.aload_n (pc := 95) 0 dX7_part_95 rfl ?_
            refine V.gr (pc := 96) 7 6 33 flX7_48 dX7_part_96 (kS_0) (by decide) (by decide) rfl (kR_0_6) ?_
            refine V.aload_n (pc := 99) 0 dX7_part_99 rfl ?_
            refine V.gr (pc := 100) 7 3 10 flX7_33 dX7_part_100 (kS_0) (by decide) (by decide) rfl (kR_0_3) ?_
            refine V.aload_n (pc := 103) 0 dX7_part_103 rfl ?_
            refine V.gr (pc := 104) 7 0 1 flX7_10 dX7_part_104 (kS_0) (by decide) (by decide) rfl (kR_0_0) ?_
            refine V.callV (pc := 107) (e1 := eX6_throughDays) (o := 33) (c := 6) 2 [vR 10, vR 1] [] mfX6_throughDays slX6_throughDays mlX7_124 dX7_part_107 (kS_33) (by decide) rfl rfl rfl (Nat.le_of_ble_eq_true rfl) ⟨by decide, by decide, by decide, by decide⟩ ?_
            refine c_X6_throughDays hi hl hT σ hC _ (fun g33 g34 g35 hWD => ?_)
            refine V.qV (pc := 107) rfl rfl ?_
            refine V.hieq (hi' := (upR (upR (upR hi 35 g35) 34 g34) 33 g33)) ((upR_c ((upR_c r0).trans (rs (by decide) r0))).trans (rs (by decide) (rs (by decide) r0))) ?_
            refine V.aload_n (pc := 110) 0 dX7_part_110 rfl ?_
            refine V.gr (pc := 111) 7 6 33 flX7_48 dX7_part_111 (kS_0) (by decide) (by decide) rfl (kR_0_6) ?_
            refine V.gr (pc := 114) 6 1 35 flX7_128 dX7_part_114 (kS_33) (by decide) (by decide) rfl (kR_33_1) ?_
            refine V.iload_n (pc := 117) 1 dX7_part_117 rfl ?_
            refine V.za (pc := 118) (len := 16) n (b2i (heardF σ n)) dX7_part_118 (kS_35) (rfl) (by omega) (hWD.2.2.1 n (by omega)) ?_
            refine V.if_eq (pc := 119) 126 dX7_part_119 (by decide) (fun h119 => ?_) (fun h119 => ?_)
            · have hv := b2i_F h119
              refine V.iconst (pc := 126) (z := 0) dX7_part_126 rfl ⟨by decide, by decide⟩ ?_
              refine V.iret (pc := 127) (z := 0) dX7_part_127 rfl ?_
              have hA : aPart (σ, m, hi 5, im) (n : Int) w = 0 := by
                unfold aPart
                try dsimp only [gσ, gm, gg, gi]
                refine (if_neg (by first | omega | assumption)).trans ?_
                refine (if_neg (by first | omega | assumption)).trans ?_
                refine (if_neg (by first | omega | assumption)).trans ?_
                refine (if_neg (by first | omega | assumption)).trans ?_
                refine (if_pos (by first | omega | assumption)).trans ?_
                show b2i (heardF σ n) = _; rw [hv]; rfl
              rw [hA] at hq
              exact hq _ _ (by repeat (first | exact fr0 | refine fr1 (by decide) ?_ | refine fr2 (by decide) ?_ | refine fr3 (by decide) ?_ | refine fr4 (by decide) ?_)) (RC_i (hT) (hC) (hm) (hm2) (rfl) (hgr) (k0) (k1) (k2) (k3) (hfr) (hwo))
            · have hv := b2i_T h119
              refine V.iconst (pc := 122) (z := 1) dX7_part_122 rfl ⟨by decide, by decide⟩ ?_
              refine V.goto (pc := 123) 127 dX7_part_123 (by decide) ?_
              refine V.iret (pc := 127) (z := 1) dX7_part_127 rfl ?_
              have hA : aPart (σ, m, hi 5, im) (n : Int) w = 1 := by
                unfold aPart
                try dsimp only [gσ, gm, gg, gi]
                refine (if_neg (by first | omega | assumption)).trans ?_
                refine (if_neg (by first | omega | assumption)).trans ?_
                refine (if_neg (by first | omega | assumption)).trans ?_
                refine (if_neg (by first | omega | assumption)).trans ?_
                refine (if_pos (by first | omega | assumption)).trans ?_
                show b2i (heardF σ n) = _; rw [hv]; rfl
              rw [hA] at hq
              exact hq _ _ (by repeat (first | exact fr0 | refine fr1 (by decide) ?_ | refine fr2 (by decide) ?_ | refine fr3 (by decide) ?_ | refine fr4 (by decide) ?_)) (RC_i (hT) (hC) (hm) (hm2) (rfl) (hgr) (k0) (k1) (k2) (k3) (hfr) (hwo))
      · skip
        refine V.iconst (pc := 24) (z := (-1)) dX7_part_24 rfl ⟨by decide, by decide⟩ ?_
        refine V.iret (pc := 25) (z := (-1)) dX7_part_25 rfl ?_
        have hA : aPart (σ, m, hi 5, im) p w = -1 := by
          unfold aPart
          try dsimp only [gσ, gm, gg, gi]
          refine (if_pos (by first | omega | assumption)).trans ?_
          rfl
        rw [hA] at hq
        exact hq _ _ (by repeat (first | exact fr0 | refine fr1 (by decide) ?_ | refine fr2 (by decide) ?_ | refine fr3 (by decide) ?_ | refine fr4 (by decide) ?_)) hR

set_option maxRecDepth 100000 in
theorem c_X7_slips (hi hl : HI) (σ : SG) (m : Nat) (g : Nat → Int) (im : Nat → Option SG) (hR : RC hi hl (σ, m, g, im)) (s : Int) (i : Int) (Q : QT) (hq : ∀ hi' hl' : HI, FrC hi hl hi' hl' → RC hi' hl' (σ, m, g, im) → Q (some (vI (aSlips (σ, m, g, im) s i))) KW hi' hl') : Con eX7_slips [vR 0, vI s, vI i] KW hi hl Q := by
  refine Con.ofV (by decide +kernel) (Nat.le_of_ble_eq_true rfl) ?_
  show V eX7_slips none KW 0 [(0, vR 0), (1, vI s), (2, vI i)] [] hi hl 0 0 Q
  obtain ⟨hT, hC, ⟨hm, hm2, hg5, hgr⟩, ⟨k0, k1, k2, k3⟩, hfr, hwo⟩ := RC_o hR
  subst hg5
  have hwf := hC.1
  have hn16 := hwf.2.2.1
  have hbg := hwf.2.2.2.2.1
  refine V.iload_n (pc := 0) 1 dX7_slips_0 rfl ?_
  refine V.if_lt (pc := 1) 9 dX7_slips_1 (by decide) (fun h1 => ?_) (fun h1 => ?_)
  · skip
    refine V.bipush (pc := 9) (z := (-2)) dX7_slips_9 (by decide +kernel) ⟨by decide, by decide⟩ ?_
    refine V.iret (pc := 11) (z := (-2)) dX7_slips_11 rfl ?_
    have hA : aSlips (σ, m, hi 5, im) s i = -2 := by
      unfold aSlips
      try dsimp only [gσ, gm, gg, gi]
      refine (if_pos (by first | omega | assumption)).trans ?_
      rfl
    rw [hA] at hq
    exact hq _ _ (by repeat (first | exact fr0 | refine fr1 (by decide) ?_ | refine fr2 (by decide) ?_ | refine fr3 (by decide) ?_ | refine fr4 (by decide) ?_)) hR
  · skip
    refine V.iload_n (pc := 4) 1 dX7_slips_4 rfl ?_
    refine V.iconst (pc := 5) (z := 4) dX7_slips_5 rfl ⟨by decide, by decide⟩ ?_
    refine V.icmp_le (pc := 6) 12 dX7_slips_6 (by decide) (fun h6 => ?_) (fun h6 => ?_)
    · skip
      refine V.aload_n (pc := 12) 0 dX7_slips_12 rfl ?_
      refine V.gr (pc := 13) 7 1 4 flX7_19 dX7_slips_13 (kS_0) (by decide) (by decide) rfl (kR_0_1) ?_
      obtain ⟨n, rfl⟩ : ∃ n : Nat, s = (n : Int) := ⟨s.toNat, by omega⟩
      refine V.callV (pc := 16) (e1 := eX3_readSaying) (o := 4) (c := 3) 0 [] [] mfX3_readSaying slX3_readSaying mlX7_131 dX7_slips_16 (kS_4) (by decide) rfl rfl rfl (Nat.le_of_ble_eq_true rfl) ⟨by decide, by decide, by decide, by decide⟩ ?_
      refine c_X3_readSaying hi hl m hm hm2 _ (fun hsf => ?_) (fun hsf => ?_)
      · have hsf : sayF (hi 5) m ≠ -6 := hsf
        refine V.qI (pc := 16) rfl rfl ?_
        refine V.istore_n (pc := 19) (i := 3) dX7_slips_19 rfl (by decide) (ls' := [(3, vI (-1)), (0, vR 0), (1, vI ((n : Nat) : Int)), (2, vI i)]) rfl ?_
        refine V.iload_n (pc := 20) 0 dX7_slips_20 rfl ?_
        refine V.iconst (pc := 21) (z := (-1)) dX7_slips_21 rfl ⟨by decide, by decide⟩ ?_
        refine V.icmp_ne (pc := 22) 28 dX7_slips_22 (by decide) (fun hc => by exact absurd hc (by decide)) (fun h22 => ?_)
        refine V.bipush (pc := 25) (z := (-5)) dX7_slips_25 (by decide +kernel) ⟨by decide, by decide⟩ ?_
        refine V.iret (pc := 27) (z := (-5)) dX7_slips_27 rfl ?_
        have hpv : padV (σ, m, hi 5, im) = -1 := padV_n hsf
        have hA : aSlips (σ, m, hi 5, im) (n : Int) i = -5 := by
          unfold aSlips
          try dsimp only [gσ, gm, gg, gi]
          refine (if_neg (by first | omega | assumption)).trans ?_
          refine (if_pos (by first | omega | assumption)).trans ?_
          rfl
        rw [hA] at hq
        exact hq _ _ (by repeat (first | exact fr0 | refine fr1 (by decide) ?_ | refine fr2 (by decide) ?_ | refine fr3 (by decide) ?_ | refine fr4 (by decide) ?_)) hR
      · have hsf : sayF (hi 5) m = -6 := hsf
        have hsl := padS_lt hsf
        refine V.qI (pc := 16) rfl rfl ?_
        refine V.istore_n (pc := 19) (i := 3) dX7_slips_19 rfl (by decide) (ls' := [(3, vI ((f3 m + sayV (hi 5) m : Nat) : Int)), (0, vR 0), (1, vI ((n : Nat) : Int)), (2, vI i)]) rfl ?_
        refine V.iload_n (pc := 20) 0 dX7_slips_20 rfl ?_
        refine V.iconst (pc := 21) (z := (-1)) dX7_slips_21 rfl ⟨by decide, by decide⟩ ?_
        refine V.icmp_ne (pc := 22) 28 dX7_slips_22 (by decide) (fun h22 => ?_) (fun hc => by exfalso; omega)
        refine V.aload_n (pc := 28) 1 dX7_slips_28 rfl ?_
        refine V.gr (pc := 29) 7 0 1 flX7_10 dX7_slips_29 (kS_0) (by decide) (by decide) rfl (kR_0_0) ?_
        refine V.iload_n (pc := 32) 2 dX7_slips_32 rfl ?_
        refine V.iload_n (pc := 33) 0 dX7_slips_33 rfl ?_
        refine V.callV (pc := 34) (e1 := eX4_count) (o := 1) (c := 4) 2 [vI ((n : Nat) : Int), vI ((f3 m + sayV (hi 5) m : Nat) : Int)] [] mfX4_count slX4_count mlX7_134 dX7_slips_34 (kS_1) (by decide) rfl rfl rfl (Nat.le_of_ble_eq_true rfl) ⟨by decide, by decide, by decide, by decide⟩ ?_
        refine c_X4_count hi hl (hT) n (f3 m + sayV (hi 5) m) (by omega) (by omega) _ ?_
        refine V.qI (pc := 34) rfl rfl ?_
        refine V.istore (pc := 37) (i := 4) dX7_slips_37 (by decide) (ls' := [(4, vI ((slN n (f3 m + sayV (hi 5) m) : Nat) : Int)), (3, vI ((f3 m + sayV (hi 5) m : Nat) : Int)), (0, vR 0), (1, vI ((n : Nat) : Int)), (2, vI i)]) rfl ?_
        refine V.iload_n (pc := 39) 4 dX7_slips_39 rfl ?_
        refine V.if_ne (pc := 40) 46 dX7_slips_40 (by decide) (fun h40 => ?_) (fun h40 => ?_)
        · skip
          refine V.iload_n (pc := 46) 4 dX7_slips_46 rfl ?_
          refine V.if_lt (pc := 47) 56 dX7_slips_47 (by decide) (fun h47 => ?_) (fun h47 => ?_)
          · skip
            refine V.bipush (pc := 56) (z := (-6)) dX7_slips_56 (by decide +kernel) ⟨by decide, by decide⟩ ?_
            refine V.iret (pc := 58) (z := (-6)) dX7_slips_58 rfl ?_
            have hpv : padV (σ, m, hi 5, im) = (((f3 m + sayV (hi 5) m) : Nat) : Int) := padV_y hsf
            have hA : aSlips (σ, m, hi 5, im) (n : Int) i = -6 := by
              unfold aSlips
              try dsimp only [gσ, gm, gg, gi]
              rw [hpv]
              refine (if_neg (by first | omega | assumption)).trans ?_
              refine (if_neg (by first | omega | assumption)).trans ?_
              refine (if_neg (by first | omega | assumption)).trans ?_
              refine (if_pos (show ¬ (1 ≤ i ∧ i ≤ (slN n (f3 m + sayV (hi 5) m) : Nat)) by omega)).trans ?_
              rfl
            rw [hA] at hq
            exact hq _ _ (by repeat (first | exact fr0 | refine fr1 (by decide) ?_ | refine fr2 (by decide) ?_ | refine fr3 (by decide) ?_ | refine fr4 (by decide) ?_)) hR
          · skip
            refine V.iload_n (pc := 50) 4 dX7_slips_50 rfl ?_
            refine V.iload (pc := 51) 0 dX7_slips_51 rfl ?_
            refine V.icmp_le (pc := 53) 59 dX7_slips_53 (by decide) (fun h53 => ?_) (fun h53 => ?_)
            · skip
              obtain ⟨j, rfl⟩ : ∃ j : Nat, i = (j : Int) := ⟨i.toNat, by omega⟩
              refine V.aload_n (pc := 59) 2 dX7_slips_59 rfl ?_
              refine V.gr (pc := 60) 7 0 1 flX7_10 dX7_slips_60 (kS_0) (by decide) (by decide) rfl (kR_0_0) ?_
              refine V.iload_n (pc := 63) 3 dX7_slips_63 rfl ?_
              refine V.iload_n (pc := 64) 1 dX7_slips_64 rfl ?_
              refine V.iload_n (pc := 65) 4 dX7_slips_65 rfl ?_
              refine V.callV (pc := 66) (e1 := eX4_numbered) (o := 1) (c := 4) 3 [vI ((n : Nat) : Int), vI ((f3 m + sayV (hi 5) m : Nat) : Int), vI ((j : Nat) : Int)] [] mfX4_numbered slX4_numbered mlX7_138 dX7_slips_66 (kS_1) (by decide) rfl rfl rfl (Nat.le_of_ble_eq_true rfl) ⟨by decide, by decide, by decide, by decide⟩ ?_
              refine c_X4_numbered hi hl (hT) n (f3 m + sayV (hi 5) m) j (by omega) (by omega) _ ?_
              refine V.qI (pc := 66) rfl rfl ?_
              have hnl := nth_lt (n := j) (show n ≤ 4 by omega) hsl
              refine V.callS (pc := 69) (e1 := eX7_lengthOf) 1 [vI ((nth n (f3 m + sayV (hi 5) m) j : Nat) : Int)] [] mfX7_lengthOf slX7_lengthOf mlX7_142 dX7_slips_69 rfl rfl (Nat.le_of_ble_eq_true rfl) ⟨by decide, by decide, by decide, by decide⟩ ?_
              refine c_X7_lengthOf KW hi hl (nth n (f3 m + sayV (hi 5) m) j) (by omega) _ ?_
              refine V.qI (pc := 69) rfl rfl ?_
              refine V.iret (pc := 72) (z := ((L3 (nth n (f3 m + sayV (hi 5) m) j) : Nat) : Int)) dX7_slips_72 rfl ?_
              have hpv : padV (σ, m, hi 5, im) = (((f3 m + sayV (hi 5) m) : Nat) : Int) := padV_y hsf
              have hA : aSlips (σ, m, hi 5, im) (n : Int) (j : Int) = (L3 (nth n (f3 m + sayV (hi 5) m) j) : Nat) := by
                unfold aSlips
                try dsimp only [gσ, gm, gg, gi]
                rw [hpv]
                refine (if_neg (by first | omega | assumption)).trans ?_
                refine (if_neg (by first | omega | assumption)).trans ?_
                refine (if_neg (by first | omega | assumption)).trans ?_
                refine (if_neg (show ¬ ¬ (1 ≤ (j : Int) ∧ (j : Int) ≤ (slN n (f3 m + sayV (hi 5) m) : Nat)) by omega)).trans ?_
                rfl
              rw [hA] at hq
              exact hq _ _ (by repeat (first | exact fr0 | refine fr1 (by decide) ?_ | refine fr2 (by decide) ?_ | refine fr3 (by decide) ?_ | refine fr4 (by decide) ?_)) hR
            · skip
              refine V.bipush (pc := 56) (z := (-6)) dX7_slips_56 (by decide +kernel) ⟨by decide, by decide⟩ ?_
              refine V.iret (pc := 58) (z := (-6)) dX7_slips_58 rfl ?_
              have hpv : padV (σ, m, hi 5, im) = (((f3 m + sayV (hi 5) m) : Nat) : Int) := padV_y hsf
              have hA : aSlips (σ, m, hi 5, im) (n : Int) i = -6 := by
                unfold aSlips
                try dsimp only [gσ, gm, gg, gi]
                rw [hpv]
                refine (if_neg (by first | omega | assumption)).trans ?_
                refine (if_neg (by first | omega | assumption)).trans ?_
                refine (if_neg (by first | omega | assumption)).trans ?_
                refine (if_pos (show ¬ (1 ≤ i ∧ i ≤ (slN n (f3 m + sayV (hi 5) m) : Nat)) by omega)).trans ?_
                rfl
              rw [hA] at hq
              exact hq _ _ (by repeat (first | exact fr0 | refine fr1 (by decide) ?_ | refine fr2 (by decide) ?_ | refine fr3 (by decide) ?_ | refine fr4 (by decide) ?_)) hR
        · skip
          refine V.iload (pc := 43) 0 dX7_slips_43 rfl ?_
          refine V.iret (pc := 45) (z := ((slN n (f3 m + sayV (hi 5) m) : Nat) : Int)) dX7_slips_45 rfl ?_
          have hpv : padV (σ, m, hi 5, im) = (((f3 m + sayV (hi 5) m) : Nat) : Int) := padV_y hsf
          have hA : aSlips (σ, m, hi 5, im) (n : Int) i = (slN n (f3 m + sayV (hi 5) m) : Nat) := by
            unfold aSlips
            try dsimp only [gσ, gm, gg, gi]
            rw [hpv]
            refine (if_neg (by first | omega | assumption)).trans ?_
            refine (if_neg (by first | omega | assumption)).trans ?_
            refine (if_pos (by first | omega | assumption)).trans ?_
            rfl
          rw [hA] at hq
          exact hq _ _ (by repeat (first | exact fr0 | refine fr1 (by decide) ?_ | refine fr2 (by decide) ?_ | refine fr3 (by decide) ?_ | refine fr4 (by decide) ?_)) hR
    · skip
      refine V.bipush (pc := 9) (z := (-2)) dX7_slips_9 (by decide +kernel) ⟨by decide, by decide⟩ ?_
      refine V.iret (pc := 11) (z := (-2)) dX7_slips_11 rfl ?_
      have hA : aSlips (σ, m, hi 5, im) s i = -2 := by
        unfold aSlips
        try dsimp only [gσ, gm, gg, gi]
        refine (if_pos (by first | omega | assumption)).trans ?_
        rfl
      rw [hA] at hq
      exact hq _ _ (by repeat (first | exact fr0 | refine fr1 (by decide) ?_ | refine fr2 (by decide) ?_ | refine fr3 (by decide) ?_ | refine fr4 (by decide) ?_)) hR

set_option maxRecDepth 100000 in
theorem c_X7_bargain (hi hl : HI) (σ : SG) (m : Nat) (g : Nat → Int) (im : Nat → Option SG) (hR : RC hi hl (σ, m, g, im))  (Q : QT) (hq : ∀ hi' hl' : HI, FrC hi hl hi' hl' → RC hi' hl' (nBarg (σ, m, g, im) ) → Q (some (vI (aBarg (σ, m, g, im) ))) KW hi' hl') : Con eX7_bargain [vR 0] KW hi hl Q := by
  refine Con.ofV (by decide +kernel) (Nat.le_of_ble_eq_true rfl) ?_
  show V eX7_bargain none KW 0 [(0, vR 0)] [] hi hl 0 0 Q
  refine V.hieq (hi' := (upR (upR hi 10 (hi 10)) 4 (hi 4))) (by rw [upR_id, upR_id]) ?_
  obtain ⟨hT, hC, ⟨hm, hm2, hg5, hgr⟩, ⟨k0, k1, k2, k3⟩, hfr, hwo⟩ := RC_o hR
  subst hg5
  have hwf := hC.1
  have hn16 := hwf.2.2.1
  have hbg := hwf.2.2.2.2.1
  refine V.aload_n (pc := 0) 0 dX7_bargain_0 rfl ?_
  refine V.gr (pc := 1) 7 1 4 flX7_19 dX7_bargain_1 (kS_0) (by decide) (by decide) rfl (kR_0_1) ?_
  refine V.callV (pc := 4) (e1 := eX3_readSaying) (o := 4) (c := 3) 0 [] [] mfX3_readSaying slX3_readSaying mlX7_131 dX7_bargain_4 (kS_4) (by decide) rfl rfl rfl (Nat.le_of_ble_eq_true rfl) ⟨by decide, by decide, by decide, by decide⟩ ?_
  refine c_X3_readSaying (upR (upR hi 10 (hi 10)) 4 (hi 4)) hl m hm hm2 _ (fun hsf => ?_) (fun hsf => ?_)
  · have hsf : sayF (hi 5) m ≠ -6 := hsf
    refine V.qI (pc := 4) rfl rfl ?_
    refine V.istore_n (pc := 7) (i := 1) dX7_bargain_7 rfl (by decide) (ls' := [(1, vI (-1)), (0, vR 0)]) rfl ?_
    refine V.iload_n (pc := 8) 0 dX7_bargain_8 rfl ?_
    refine V.iconst (pc := 9) (z := (-1)) dX7_bargain_9 rfl ⟨by decide, by decide⟩ ?_
    refine V.icmp_ne (pc := 10) 16 dX7_bargain_10 (by decide) (fun hc => by exact absurd hc (by decide)) (fun h10 => ?_)
    refine V.bipush (pc := 13) (z := (-5)) dX7_bargain_13 (by decide +kernel) ⟨by decide, by decide⟩ ?_
    refine V.iret (pc := 15) (z := (-5)) dX7_bargain_15 rfl ?_
    have hpv : padV (σ, m, hi 5, im) = -1 := padV_n hsf
    have hA : aBarg (σ, m, hi 5, im)  = -5 := by
      unfold aBarg
      try dsimp only [gσ, gm, gg, gi]
      refine (if_pos (by first | omega | assumption)).trans ?_
      rfl
    rw [hA] at hq
    have hN : nBarg (σ, m, hi 5, im)  = (σ, m, hi 5, im) := by
      unfold nBarg
      try dsimp only [gσ, gm, gg, gi]
      refine (if_pos (by first | omega | assumption)).trans ?_
      rfl
    rw [hN] at hq
    rw [upR_id, upR_id]
    exact hq _ _ (by repeat (first | exact fr0 | refine fr1 (by decide) ?_ | refine fr2 (by decide) ?_ | refine fr3 (by decide) ?_ | refine fr4 (by decide) ?_)) hR
  · have hsf : sayF (hi 5) m = -6 := hsf
    have hsl := padS_lt hsf
    refine V.qI (pc := 4) rfl rfl ?_
    refine V.istore_n (pc := 7) (i := 1) dX7_bargain_7 rfl (by decide) (ls' := [(1, vI ((f3 m + sayV (hi 5) m : Nat) : Int)), (0, vR 0)]) rfl ?_
    refine V.iload_n (pc := 8) 0 dX7_bargain_8 rfl ?_
    refine V.iconst (pc := 9) (z := (-1)) dX7_bargain_9 rfl ⟨by decide, by decide⟩ ?_
    refine V.icmp_ne (pc := 10) 16 dX7_bargain_10 (by decide) (fun h10 => ?_) (fun hc => by exfalso; omega)
    refine V.aload_n (pc := 16) 1 dX7_bargain_16 rfl ?_
    refine V.gr (pc := 17) 7 3 10 flX7_33 dX7_bargain_17 (kS_0) (by decide) (by decide) rfl (kR_0_3) ?_
    refine V.iload_n (pc := 20) 0 dX7_bargain_20 rfl ?_
    refine V.pi (pc := 21) (hi' := (upR (upR hi 10 (updF (hi 10) 3 ((f3 m + sayV (hi 5) m : Nat) : Int))) 4 (hi 4))) 0 3 flX7_146 dX7_bargain_21 (kS_10) (by decide) (by decide) rfl rfl (us (by decide) u1) ?_
    refine V.aload_n (pc := 24) 1 dX7_bargain_24 rfl ?_
    refine V.gr (pc := 25) 7 1 4 flX7_19 dX7_bargain_25 (kS_0) (by decide) (by decide) rfl (kR_0_1) ?_
    refine V.iconst (pc := 28) (z := 0) dX7_bargain_28 rfl ⟨by decide, by decide⟩ ?_
    refine V.pi (pc := 29) (hi' := (upR (upR hi 10 (updF (hi 10) 3 ((f3 m + sayV (hi 5) m : Nat) : Int))) 4 (updF (hi 4) 1 0))) 3 1 flX7_93 dX7_bargain_29 (kS_4) (by decide) (by decide) rfl rfl u1 ?_
    refine V.iload_n (pc := 32) 0 dX7_bargain_32 rfl ?_
    refine V.callS (pc := 33) (e1 := eX7_lengthOf) 1 [vI ((f3 m + sayV (hi 5) m : Nat) : Int)] [] mfX7_lengthOf slX7_lengthOf mlX7_142 dX7_bargain_33 rfl rfl (Nat.le_of_ble_eq_true rfl) ⟨by decide, by decide, by decide, by decide⟩ ?_
    refine c_X7_lengthOf KW (upR (upR hi 10 (updF (hi 10) 3 ((f3 m + sayV (hi 5) m : Nat) : Int))) 4 (updF (hi 4) 1 0)) hl (f3 m + sayV (hi 5) m) (by omega) _ ?_
    refine V.qI (pc := 33) rfl rfl ?_
    refine V.iret (pc := 36) (z := ((L3 (f3 m + sayV (hi 5) m) : Nat) : Int)) dX7_bargain_36 rfl ?_
    have hpv : padV (σ, m, hi 5, im) = (((f3 m + sayV (hi 5) m) : Nat) : Int) := padV_y hsf
    have hA : aBarg (σ, m, hi 5, im)  = (L3 (f3 m + sayV (hi 5) m) : Nat) := by
      unfold aBarg
      try dsimp only [gσ, gm, gg, gi]
      rw [hpv]
      refine (if_neg (by first | omega | assumption)).trans ?_
      rfl
    rw [hA] at hq
    have hN : nBarg (σ, m, hi 5, im)  = (setBg σ (f3 m + sayV (hi 5) m), 0, hi 5, im) := by
      unfold nBarg
      try dsimp only [gσ, gm, gg, gi]
      rw [hpv]
      refine (if_neg (by first | omega | assumption)).trans ?_
      rfl
    rw [hN] at hq
    exact hq _ _ (by repeat (first | exact fr0 | refine fr1 (by decide) ?_ | refine fr2 (by decide) ?_ | refine fr3 (by decide) ?_ | refine fr4 (by decide) ?_)) (RC_i (hT) (CR_bg hC hsl) (by show updF (hi 4) 1 0 1 = _; exact updF_s) (by omega) (rfl) (fun i hi' => absurd hi' (Nat.not_lt_zero i)) (k0) (k1) (k2) (k3) (fr_same (σ := σ) rfl rfl rfl rfl rfl hfr) (wo_same (σ := σ) rfl rfl rfl rfl rfl hwo))

set_option maxRecDepth 100000 in
theorem c_X7_says (hi hl : HI) (σ : SG) (m : Nat) (g : Nat → Int) (im : Nat → Option SG) (hR : RC hi hl (σ, m, g, im)) (b : Int) (i : Int) (Q : QT) (hq : ∀ hi' hl' : HI, FrC hi hl hi' hl' → RC hi' hl' (σ, m, g, im) → Q (some (vI (aSays (σ, m, g, im) b i))) KW hi' hl') : Con eX7_says [vR 0, vI b, vI i] KW hi hl Q := by
  refine Con.ofV (by decide +kernel) (Nat.le_of_ble_eq_true rfl) ?_
  show V eX7_says none KW 0 [(0, vR 0), (1, vI b), (2, vI i)] [] hi hl 0 0 Q
  obtain ⟨hT, hC, ⟨hm, hm2, hg5, hgr⟩, ⟨k0, k1, k2, k3⟩, hfr, hwo⟩ := RC_o hR
  subst hg5
  have hwf := hC.1
  have hn16 := hwf.2.2.1
  have hbg := hwf.2.2.2.2.1
  refine V.iload_n (pc := 0) 1 dX7_says_0 rfl ?_
  refine V.callS (pc := 1) (e1 := eX7_isBird) 1 [vI b] [] mfX7_isBird slX7_isBird mlX7_80 dX7_says_1 rfl rfl (Nat.le_of_ble_eq_true rfl) ⟨by decide, by decide, by decide, by decide⟩ ?_
  refine c_X7_isBird KW hi hl b _ (fun hb => ?_) (fun hb => ?_)
  · skip
    refine V.qI (pc := 1) rfl rfl ?_
    refine V.if_ne (pc := 4) 9 dX7_says_4 (by decide) (fun h4 => ?_) (fun hc => by exact absurd hc (by decide))
    obtain ⟨n, rfl⟩ : ∃ n : Nat, b = (n : Int) := ⟨b.toNat, by omega⟩
    refine V.aload_n (pc := 9) 0 dX7_says_9 rfl ?_
    refine V.gr (pc := 10) 7 6 33 flX7_48 dX7_says_10 (kS_0) (by decide) (by decide) rfl (kR_0_6) ?_
    refine V.aload_n (pc := 13) 0 dX7_says_13 rfl ?_
    refine V.gr (pc := 14) 7 3 10 flX7_33 dX7_says_14 (kS_0) (by decide) (by decide) rfl (kR_0_3) ?_
    refine V.aload_n (pc := 17) 0 dX7_says_17 rfl ?_
    refine V.gr (pc := 18) 7 0 1 flX7_10 dX7_says_18 (kS_0) (by decide) (by decide) rfl (kR_0_0) ?_
    refine V.callV (pc := 21) (e1 := eX6_throughDays) (o := 33) (c := 6) 2 [vR 10, vR 1] [] mfX6_throughDays slX6_throughDays mlX7_124 dX7_says_21 (kS_33) (by decide) rfl rfl rfl (Nat.le_of_ble_eq_true rfl) ⟨by decide, by decide, by decide, by decide⟩ ?_
    refine c_X6_throughDays hi hl hT σ hC _ (fun g33 g34 g35 hWD => ?_)
    refine V.qV (pc := 21) rfl rfl ?_
    refine V.hieq (hi' := (upR (upR (upR hi 35 g35) 34 g34) 33 g33)) ((upR_c ((upR_c r0).trans (rs (by decide) r0))).trans (rs (by decide) (rs (by decide) r0))) ?_
    refine V.aload_n (pc := 24) 0 dX7_says_24 rfl ?_
    refine V.gr (pc := 25) 7 6 33 flX7_48 dX7_says_25 (kS_0) (by decide) (by decide) rfl (kR_0_6) ?_
    refine V.gr (pc := 28) 6 0 34 flX7_149 dX7_says_28 (kS_33) (by decide) (by decide) rfl (kR_33_0) ?_
    refine V.iload_n (pc := 31) 1 dX7_says_31 rfl ?_
    refine V.ia (pc := 32) (len := 6) n (encC ((wD σ).1 n)) dX7_says_32 (kS_34) (rfl) (by omega) (hWD.2.1 n (by omega)) ?_
    refine V.iload_n (pc := 33) 2 dX7_says_33 rfl ?_
    refine V.callS (pc := 34) (e1 := eX7_wordOf) 2 [vI (encC ((wD σ).1 n)), vI i] [] mfX7_wordOf slX7_wordOf mlX7_152 dX7_says_34 rfl rfl (Nat.le_of_ble_eq_true rfl) ⟨by decide, by decide, by decide, by decide⟩ ?_
    refine c_X7_wordOf KW (upR (upR (upR hi 35 g35) 34 g34) 33 g33) hl (encC ((wD σ).1 n)) i (encC_b hWD.1 n) _ ?_
    refine V.qI (pc := 34) rfl rfl ?_
    refine V.iret (pc := 37) (z := (wordO (encC ((wD σ).1 n)) i)) dX7_says_37 rfl ?_
    have hA : aSays (σ, m, hi 5, im) (n : Int) i = wordO (encC ((wD σ).1 n)) i := by
      unfold aSays
      try dsimp only [gσ, gm, gg, gi]
      refine (if_neg (by first | omega | assumption)).trans ?_
      rfl
    rw [hA] at hq
    exact hq _ _ (by repeat (first | exact fr0 | refine fr1 (by decide) ?_ | refine fr2 (by decide) ?_ | refine fr3 (by decide) ?_ | refine fr4 (by decide) ?_)) (RC_i (hT) (hC) (hm) (hm2) (rfl) (hgr) (k0) (k1) (k2) (k3) (hfr) (hwo))
  · skip
    refine V.qI (pc := 1) rfl rfl ?_
    refine V.if_ne (pc := 4) 9 dX7_says_4 (by decide) (fun hc => by exact absurd hc (by decide)) (fun h4 => ?_)
    refine V.iconst (pc := 7) (z := (-1)) dX7_says_7 rfl ⟨by decide, by decide⟩ ?_
    refine V.iret (pc := 8) (z := (-1)) dX7_says_8 rfl ?_
    have hA : aSays (σ, m, hi 5, im) b i = -1 := by
      unfold aSays
      try dsimp only [gσ, gm, gg, gi]
      refine (if_pos (by first | omega | assumption)).trans ?_
      rfl
    rw [hA] at hq
    exact hq _ _ (by repeat (first | exact fr0 | refine fr1 (by decide) ?_ | refine fr2 (by decide) ?_ | refine fr3 (by decide) ?_ | refine fr4 (by decide) ?_)) hR

set_option maxRecDepth 100000 in
theorem c_X7_testify (hi hl : HI) (σ : SG) (m : Nat) (g : Nat → Int) (im : Nat → Option SG) (hR : RC hi hl (σ, m, g, im)) (b : Int) (Q : QT) (hq : ∀ hi' hl' : HI, FrC hi hl hi' hl' → RC hi' hl' (nTest (σ, m, g, im) b) → Q (some (vI (aTest (σ, m, g, im) b))) KW hi' hl') : Con eX7_testify [vR 0, vI b] KW hi hl Q := by
  refine Con.ofV (by decide +kernel) (Nat.le_of_ble_eq_true rfl) ?_
  show V eX7_testify none KW 0 [(0, vR 0), (1, vI b)] [] hi hl 0 0 Q
  refine V.hieq (hi' := (upR (upR hi 12 (hi 12)) 4 (hi 4))) (by rw [upR_id, upR_id]) ?_
  obtain ⟨hT, hC, ⟨hm, hm2, hg5, hgr⟩, ⟨k0, k1, k2, k3⟩, hfr, hwo⟩ := RC_o hR
  subst hg5
  have hwf := hC.1
  have hn16 := hwf.2.2.1
  have hbg := hwf.2.2.2.2.1
  refine V.iload_n (pc := 0) 1 dX7_testify_0 rfl ?_
  refine V.callS (pc := 1) (e1 := eX7_isBird) 1 [vI b] [] mfX7_isBird slX7_isBird mlX7_80 dX7_testify_1 rfl rfl (Nat.le_of_ble_eq_true rfl) ⟨by decide, by decide, by decide, by decide⟩ ?_
  refine c_X7_isBird KW (upR (upR hi 12 (hi 12)) 4 (hi 4)) hl b _ (fun hb => ?_) (fun hb => ?_)
  · skip
    refine V.qI (pc := 1) rfl rfl ?_
    refine V.if_ne (pc := 4) 9 dX7_testify_4 (by decide) (fun h4 => ?_) (fun hc => by exact absurd hc (by decide))
    obtain ⟨n, rfl⟩ : ∃ n : Nat, b = (n : Int) := ⟨b.toNat, by omega⟩
    refine V.aload_n (pc := 9) 0 dX7_testify_9 rfl ?_
    refine V.gr (pc := 10) 7 1 4 flX7_19 dX7_testify_10 (kS_0) (by decide) (by decide) rfl (kR_0_1) ?_
    refine V.callV (pc := 13) (e1 := eX3_readSaying) (o := 4) (c := 3) 0 [] [] mfX3_readSaying slX3_readSaying mlX7_131 dX7_testify_13 (kS_4) (by decide) rfl rfl rfl (Nat.le_of_ble_eq_true rfl) ⟨by decide, by decide, by decide, by decide⟩ ?_
    refine c_X3_readSaying (upR (upR hi 12 (hi 12)) 4 (hi 4)) hl m hm hm2 _ (fun hsf => ?_) (fun hsf => ?_)
    · have hsf : sayF (hi 5) m ≠ -6 := hsf
      refine V.qI (pc := 13) rfl rfl ?_
      refine V.istore_n (pc := 16) (i := 2) dX7_testify_16 rfl (by decide) (ls' := [(2, vI (-1)), (0, vR 0), (1, vI ((n : Nat) : Int))]) rfl ?_
      refine V.iload_n (pc := 17) 0 dX7_testify_17 rfl ?_
      refine V.iconst (pc := 18) (z := (-1)) dX7_testify_18 rfl ⟨by decide, by decide⟩ ?_
      refine V.icmp_ne (pc := 19) 25 dX7_testify_19 (by decide) (fun hc => by exact absurd hc (by decide)) (fun h19 => ?_)
      refine V.bipush (pc := 22) (z := (-5)) dX7_testify_22 (by decide +kernel) ⟨by decide, by decide⟩ ?_
      refine V.iret (pc := 24) (z := (-5)) dX7_testify_24 rfl ?_
      have hpv : padV (σ, m, hi 5, im) = -1 := padV_n hsf
      have hA : aTest (σ, m, hi 5, im) (n : Int) = -5 := by
        unfold aTest
        try dsimp only [gσ, gm, gg, gi]
        refine (if_neg (by first | omega | assumption)).trans ?_
        refine (if_pos (by first | omega | assumption)).trans ?_
        rfl
      rw [hA] at hq
      have hN : nTest (σ, m, hi 5, im) (n : Int) = (σ, m, hi 5, im) := by
        unfold nTest
        try dsimp only [gσ, gm, gg, gi]
        refine (if_pos (Or.inr hpv)).trans ?_
        rfl
      rw [hN] at hq
      rw [upR_id, upR_id]
      exact hq _ _ (by repeat (first | exact fr0 | refine fr1 (by decide) ?_ | refine fr2 (by decide) ?_ | refine fr3 (by decide) ?_ | refine fr4 (by decide) ?_)) hR
    · have hsf : sayF (hi 5) m = -6 := hsf
      have hsl := padS_lt hsf
      refine V.qI (pc := 13) rfl rfl ?_
      refine V.istore_n (pc := 16) (i := 2) dX7_testify_16 rfl (by decide) (ls' := [(2, vI ((f3 m + sayV (hi 5) m : Nat) : Int)), (0, vR 0), (1, vI ((n : Nat) : Int))]) rfl ?_
      refine V.iload_n (pc := 17) 0 dX7_testify_17 rfl ?_
      refine V.iconst (pc := 18) (z := (-1)) dX7_testify_18 rfl ⟨by decide, by decide⟩ ?_
      refine V.icmp_ne (pc := 19) 25 dX7_testify_19 (by decide) (fun h19 => ?_) (fun hc => by exfalso; omega)
      refine V.aload_n (pc := 25) 1 dX7_testify_25 rfl ?_
      refine V.gr (pc := 26) 7 3 10 flX7_33 dX7_testify_26 (kS_0) (by decide) (by decide) rfl (kR_0_3) ?_
      refine V.gr (pc := 29) 0 1 12 flX7_155 dX7_testify_29 (kS_10) (by decide) (by decide) rfl (kR_10_1) ?_
      refine V.iload_n (pc := 32) 2 dX7_testify_32 rfl ?_
      refine V.iload_n (pc := 33) 0 dX7_testify_33 rfl ?_
      refine V.is (pc := 34) (len := 6) (hi' := (upR (upR hi 12 (updF (hi 12) n ((f3 m + sayV (hi 5) m : Nat) : Int))) 4 (hi 4))) n dX7_testify_34 (kS_12) (rfl) (by omega) (us (by decide) u1) ?_
      refine V.aload_n (pc := 35) 1 dX7_testify_35 rfl ?_
      refine V.gr (pc := 36) 7 1 4 flX7_19 dX7_testify_36 (kS_0) (by decide) (by decide) rfl (kR_0_1) ?_
      refine V.iconst (pc := 39) (z := 0) dX7_testify_39 rfl ⟨by decide, by decide⟩ ?_
      refine V.pi (pc := 40) (hi' := (upR (upR hi 12 (updF (hi 12) n ((f3 m + sayV (hi 5) m : Nat) : Int))) 4 (updF (hi 4) 1 0))) 3 1 flX7_93 dX7_testify_40 (kS_4) (by decide) (by decide) rfl rfl u1 ?_
      refine V.aload_n (pc := 43) 1 dX7_testify_43 rfl ?_
      refine V.callV (pc := 44) (e1 := eX7_forgetHistories) (o := 0) (c := 7) 0 [] [] mfX7_forgetHistories slX7_forgetHistories mlX7_87 dX7_testify_44 (kS_0) (by decide) rfl rfl rfl (Nat.le_of_ble_eq_true rfl) ⟨by decide, by decide, by decide, by decide⟩ ?_
      refine c_X7_forgetHistories (upR (upR hi 12 (updF (hi 12) n ((f3 m + sayV (hi 5) m : Nat) : Int))) 4 (updF (hi 4) 1 0)) hl _ ?_
      refine V.qV (pc := 44) rfl rfl ?_
      refine V.hieq (hi' := (upR (upR (upR hi 0 (updF (updF (hi 0) 11 0) 12 0)) 12 (updF (hi 12) n ((f3 m + sayV (hi 5) m : Nat) : Int))) 4 (updF (hi 4) 1 0))) (rs (by decide) (rs (by decide) r0)) ?_
      refine V.iload_n (pc := 47) 0 dX7_testify_47 rfl ?_
      refine V.callS (pc := 48) (e1 := eX7_lengthOf) 1 [vI ((f3 m + sayV (hi 5) m : Nat) : Int)] [] mfX7_lengthOf slX7_lengthOf mlX7_142 dX7_testify_48 rfl rfl (Nat.le_of_ble_eq_true rfl) ⟨by decide, by decide, by decide, by decide⟩ ?_
      refine c_X7_lengthOf KW (upR (upR (upR hi 0 (updF (updF (hi 0) 11 0) 12 0)) 12 (updF (hi 12) n ((f3 m + sayV (hi 5) m : Nat) : Int))) 4 (updF (hi 4) 1 0)) hl (f3 m + sayV (hi 5) m) (by omega) _ ?_
      refine V.qI (pc := 48) rfl rfl ?_
      refine V.iret (pc := 51) (z := ((L3 (f3 m + sayV (hi 5) m) : Nat) : Int)) dX7_testify_51 rfl ?_
      have hpv : padV (σ, m, hi 5, im) = (((f3 m + sayV (hi 5) m) : Nat) : Int) := padV_y hsf
      have hA : aTest (σ, m, hi 5, im) (n : Int) = (L3 (f3 m + sayV (hi 5) m) : Nat) := by
        unfold aTest
        try dsimp only [gσ, gm, gg, gi]
        rw [hpv]
        refine (if_neg (by first | omega | assumption)).trans ?_
        refine (if_neg (by first | omega | assumption)).trans ?_
        rfl
      rw [hA] at hq
      have hN : nTest (σ, m, hi 5, im) (n : Int) = (setTe σ n (some (f3 m + sayV (hi 5) m)), 0, hi 5, im) := by
        unfold nTest
        try dsimp only [gσ, gm, gg, gi]
        rw [hpv]
        refine (if_neg (by first | omega | assumption)).trans ?_
        rfl
      rw [hN] at hq
      exact hq _ _ (by repeat (first | exact fr0 | refine fr1 (by decide) ?_ | refine fr2 (by decide) ?_ | refine fr3 (by decide) ?_ | refine fr4 (by decide) ?_)) (RC_i (hT) (CR_te hC (by omega) (fun v hv => by cases hv; exact hsl) rfl rfl rfl rfl rfl rfl rfl rfl) (by show updF (hi 4) 1 0 1 = _; exact updF_s) (by omega) (rfl) (fun i hi' => absurd hi' (Nat.not_lt_zero i)) (k0) (k1) (k2) (k3) (Or.inl rfl) (Or.inl rfl))
  · skip
    refine V.qI (pc := 1) rfl rfl ?_
    refine V.if_ne (pc := 4) 9 dX7_testify_4 (by decide) (fun hc => by exact absurd hc (by decide)) (fun h4 => ?_)
    refine V.iconst (pc := 7) (z := (-1)) dX7_testify_7 rfl ⟨by decide, by decide⟩ ?_
    refine V.iret (pc := 8) (z := (-1)) dX7_testify_8 rfl ?_
    have hA : aTest (σ, m, hi 5, im) b = -1 := by
      unfold aTest
      try dsimp only [gσ, gm, gg, gi]
      refine (if_pos (by first | omega | assumption)).trans ?_
      rfl
    rw [hA] at hq
    have hN : nTest (σ, m, hi 5, im) b = (σ, m, hi 5, im) := by
      unfold nTest
      try dsimp only [gσ, gm, gg, gi]
      refine (if_pos (Or.inl (by omega))).trans ?_
      rfl
    rw [hN] at hq
    rw [upR_id, upR_id]
    exact hq _ _ (by repeat (first | exact fr0 | refine fr1 (by decide) ?_ | refine fr2 (by decide) ?_ | refine fr3 (by decide) ?_ | refine fr4 (by decide) ?_)) hR

set_option maxRecDepth 100000 in
theorem c_X7_unsay (hi hl : HI) (σ : SG) (m : Nat) (g : Nat → Int) (im : Nat → Option SG) (hR : RC hi hl (σ, m, g, im)) (b : Int) (Q : QT) (hq : ∀ hi' hl' : HI, FrC hi hl hi' hl' → RC hi' hl' (nUns (σ, m, g, im) b) → Q (some (vI (aUns (σ, m, g, im) b))) KW hi' hl') : Con eX7_unsay [vR 0, vI b] KW hi hl Q := by
  refine Con.ofV (by decide +kernel) (Nat.le_of_ble_eq_true rfl) ?_
  show V eX7_unsay none KW 0 [(0, vR 0), (1, vI b)] [] hi hl 0 0 Q
  refine V.hieq (hi' := (upR hi 12 (hi 12))) (by rw [upR_id]) ?_
  obtain ⟨hT, hC, ⟨hm, hm2, hg5, hgr⟩, ⟨k0, k1, k2, k3⟩, hfr, hwo⟩ := RC_o hR
  subst hg5
  have hwf := hC.1
  have hn16 := hwf.2.2.1
  have hbg := hwf.2.2.2.2.1
  refine V.iload_n (pc := 0) 1 dX7_unsay_0 rfl ?_
  refine V.callS (pc := 1) (e1 := eX7_isBird) 1 [vI b] [] mfX7_isBird slX7_isBird mlX7_80 dX7_unsay_1 rfl rfl (Nat.le_of_ble_eq_true rfl) ⟨by decide, by decide, by decide, by decide⟩ ?_
  refine c_X7_isBird KW (upR hi 12 (hi 12)) hl b _ (fun hb => ?_) (fun hb => ?_)
  · skip
    refine V.qI (pc := 1) rfl rfl ?_
    refine V.if_ne (pc := 4) 9 dX7_unsay_4 (by decide) (fun h4 => ?_) (fun hc => by exact absurd hc (by decide))
    obtain ⟨n, rfl⟩ : ∃ n : Nat, b = (n : Int) := ⟨b.toNat, by omega⟩
    refine V.aload_n (pc := 9) 0 dX7_unsay_9 rfl ?_
    refine V.gr (pc := 10) 7 3 10 flX7_33 dX7_unsay_10 (kS_0) (by decide) (by decide) rfl (kR_0_3) ?_
    refine V.gr (pc := 13) 0 1 12 flX7_155 dX7_unsay_13 (kS_10) (by decide) (by decide) rfl (kR_10_1) ?_
    refine V.iload_n (pc := 16) 1 dX7_unsay_16 rfl ?_
    refine V.ia (pc := 17) (len := 6) n (encC (te σ n)) dX7_unsay_17 (kS_12) (rfl) (by omega) (hC.2.2.1 n (by omega)) ?_
    refine V.iconst (pc := 18) (z := (-1)) dX7_unsay_18 rfl ⟨by decide, by decide⟩ ?_
    refine V.icmp_ne (pc := 19) 24 dX7_unsay_19 (by decide) (fun h19 => ?_) (fun h19 => ?_)
    · obtain ⟨v, hv⟩ := encC_some h19
      have hvn : ¬ te σ n = none := by rw [hv]; simp
      refine V.aload_n (pc := 24) 0 dX7_unsay_24 rfl ?_
      refine V.gr (pc := 25) 7 3 10 flX7_33 dX7_unsay_25 (kS_0) (by decide) (by decide) rfl (kR_0_3) ?_
      refine V.gr (pc := 28) 0 1 12 flX7_155 dX7_unsay_28 (kS_10) (by decide) (by decide) rfl (kR_10_1) ?_
      refine V.iload_n (pc := 31) 1 dX7_unsay_31 rfl ?_
      refine V.iconst (pc := 32) (z := (-1)) dX7_unsay_32 rfl ⟨by decide, by decide⟩ ?_
      refine V.is (pc := 33) (len := 6) (hi' := (upR hi 12 (updF (hi 12) n (-1)))) n dX7_unsay_33 (kS_12) (rfl) (by omega) u1 ?_
      refine V.aload_n (pc := 34) 0 dX7_unsay_34 rfl ?_
      refine V.callV (pc := 35) (e1 := eX7_forgetHistories) (o := 0) (c := 7) 0 [] [] mfX7_forgetHistories slX7_forgetHistories mlX7_87 dX7_unsay_35 (kS_0) (by decide) rfl rfl rfl (Nat.le_of_ble_eq_true rfl) ⟨by decide, by decide, by decide, by decide⟩ ?_
      refine c_X7_forgetHistories (upR hi 12 (updF (hi 12) n (-1))) hl _ ?_
      refine V.qV (pc := 35) rfl rfl ?_
      refine V.hieq (hi' := (upR (upR hi 0 (updF (updF (hi 0) 11 0) 12 0)) 12 (updF (hi 12) n (-1)))) (rs (by decide) r0) ?_
      refine V.iconst (pc := 38) (z := 1) dX7_unsay_38 rfl ⟨by decide, by decide⟩ ?_
      refine V.iret (pc := 39) (z := 1) dX7_unsay_39 rfl ?_
      have hA : aUns (σ, m, hi 5, im) (n : Int) = 1 := by
        unfold aUns
        try dsimp only [gσ, gm, gg, gi]
        refine (if_neg (by first | omega | assumption)).trans ?_
        refine (if_neg hvn).trans ?_
        rfl
      rw [hA] at hq
      have hN : nUns (σ, m, hi 5, im) (n : Int) = (setTe σ n none, m, hi 5, im) := by
        unfold nUns
        try dsimp only [gσ, gm, gg, gi]
        refine (if_neg (fun q => by rcases q with q | q; { omega }; { exact hvn q })).trans ?_
        rfl
      rw [hN] at hq
      exact hq _ _ (by repeat (first | exact fr0 | refine fr1 (by decide) ?_ | refine fr2 (by decide) ?_ | refine fr3 (by decide) ?_ | refine fr4 (by decide) ?_)) (RC_i (hT) (CR_te hC (by omega) (fun v hv => by cases hv) rfl rfl rfl rfl rfl rfl rfl rfl) (hm) (hm2) (rfl) (hgr) (k0) (k1) (k2) (k3) (Or.inl rfl) (Or.inl rfl))
    · have hvn := encC_none.mp (show encC (te σ n) = -1 by omega)
      refine V.iconst (pc := 22) (z := 0) dX7_unsay_22 rfl ⟨by decide, by decide⟩ ?_
      refine V.iret (pc := 23) (z := 0) dX7_unsay_23 rfl ?_
      have hA : aUns (σ, m, hi 5, im) (n : Int) = 0 := by
        unfold aUns
        try dsimp only [gσ, gm, gg, gi]
        refine (if_neg (by first | omega | assumption)).trans ?_
        refine (if_pos hvn).trans ?_
        rfl
      rw [hA] at hq
      have hN : nUns (σ, m, hi 5, im) (n : Int) = (σ, m, hi 5, im) := by
        unfold nUns
        try dsimp only [gσ, gm, gg, gi]
        refine (if_pos (Or.inr hvn)).trans ?_
        rfl
      rw [hN] at hq
      rw [upR_id]
      exact hq _ _ (by repeat (first | exact fr0 | refine fr1 (by decide) ?_ | refine fr2 (by decide) ?_ | refine fr3 (by decide) ?_ | refine fr4 (by decide) ?_)) hR
  · skip
    refine V.qI (pc := 1) rfl rfl ?_
    refine V.if_ne (pc := 4) 9 dX7_unsay_4 (by decide) (fun hc => by exact absurd hc (by decide)) (fun h4 => ?_)
    refine V.iconst (pc := 7) (z := (-1)) dX7_unsay_7 rfl ⟨by decide, by decide⟩ ?_
    refine V.iret (pc := 8) (z := (-1)) dX7_unsay_8 rfl ?_
    have hA : aUns (σ, m, hi 5, im) b = -1 := by
      unfold aUns
      try dsimp only [gσ, gm, gg, gi]
      refine (if_pos (by first | omega | assumption)).trans ?_
      rfl
    rw [hA] at hq
    have hN : nUns (σ, m, hi 5, im) b = (σ, m, hi 5, im) := by
      unfold nUns
      try dsimp only [gσ, gm, gg, gi]
      refine (if_pos (Or.inl (by omega))).trans ?_
      rfl
    rw [hN] at hq
    rw [upR_id]
    exact hq _ _ (by repeat (first | exact fr0 | refine fr1 (by decide) ?_ | refine fr2 (by decide) ?_ | refine fr3 (by decide) ?_ | refine fr4 (by decide) ?_)) hR

set_option maxRecDepth 100000 in
theorem c_X7_cost (hi hl : HI) (σ : SG) (m : Nat) (g : Nat → Int) (im : Nat → Option SG) (hR : RC hi hl (σ, m, g, im))  (Q : QT) (hq : ∀ hi' hl' : HI, FrC hi hl hi' hl' → RC hi' hl' (σ, m, g, im) → Q (some (vI (aCost (σ, m, g, im) ))) KW hi' hl') : Con eX7_cost [vR 0] KW hi hl Q := by
  refine Con.ofV (by decide +kernel) (Nat.le_of_ble_eq_true rfl) ?_
  show V eX7_cost none KW 0 [(0, vR 0)] [] hi hl 0 0 Q
  obtain ⟨hT, hC, ⟨hm, hm2, hg5, hgr⟩, ⟨k0, k1, k2, k3⟩, hfr, hwo⟩ := RC_o hR
  subst hg5
  have hwf := hC.1
  have hn16 := hwf.2.2.1
  have hbg := hwf.2.2.2.2.1
  refine V.aload_n (pc := 0) 0 dX7_cost_0 rfl ?_
  refine V.gr (pc := 1) 7 1 4 flX7_19 dX7_cost_1 (kS_0) (by decide) (by decide) rfl (kR_0_1) ?_
  refine V.callV (pc := 4) (e1 := eX3_readSaying) (o := 4) (c := 3) 0 [] [] mfX3_readSaying slX3_readSaying mlX7_131 dX7_cost_4 (kS_4) (by decide) rfl rfl rfl (Nat.le_of_ble_eq_true rfl) ⟨by decide, by decide, by decide, by decide⟩ ?_
  refine c_X3_readSaying hi hl m hm hm2 _ (fun hsf => ?_) (fun hsf => ?_)
  · have hsf : sayF (hi 5) m ≠ -6 := hsf
    refine V.qI (pc := 4) rfl rfl ?_
    refine V.istore_n (pc := 7) (i := 1) dX7_cost_7 rfl (by decide) (ls' := [(1, vI (-1)), (0, vR 0)]) rfl ?_
    refine V.iload_n (pc := 8) 0 dX7_cost_8 rfl ?_
    refine V.iconst (pc := 9) (z := (-1)) dX7_cost_9 rfl ⟨by decide, by decide⟩ ?_
    refine V.icmp_ne (pc := 10) 16 dX7_cost_10 (by decide) (fun hc => by exact absurd hc (by decide)) (fun h10 => ?_)
    refine V.bipush (pc := 13) (z := (-5)) dX7_cost_13 (by decide +kernel) ⟨by decide, by decide⟩ ?_
    refine V.iret (pc := 15) (z := (-5)) dX7_cost_15 rfl ?_
    have hpv : padV (σ, m, hi 5, im) = -1 := padV_n hsf
    have hA : aCost (σ, m, hi 5, im)  = -5 := by
      unfold aCost
      try dsimp only [gσ, gm, gg, gi]
      refine (if_pos (by first | omega | assumption)).trans ?_
      rfl
    rw [hA] at hq
    exact hq _ _ (by repeat (first | exact fr0 | refine fr1 (by decide) ?_ | refine fr2 (by decide) ?_ | refine fr3 (by decide) ?_ | refine fr4 (by decide) ?_)) hR
  · have hsf : sayF (hi 5) m = -6 := hsf
    have hsl := padS_lt hsf
    refine V.qI (pc := 4) rfl rfl ?_
    refine V.istore_n (pc := 7) (i := 1) dX7_cost_7 rfl (by decide) (ls' := [(1, vI ((f3 m + sayV (hi 5) m : Nat) : Int)), (0, vR 0)]) rfl ?_
    refine V.iload_n (pc := 8) 0 dX7_cost_8 rfl ?_
    refine V.iconst (pc := 9) (z := (-1)) dX7_cost_9 rfl ⟨by decide, by decide⟩ ?_
    refine V.icmp_ne (pc := 10) 16 dX7_cost_10 (by decide) (fun h10 => ?_) (fun hc => by exfalso; omega)
    refine V.aload_n (pc := 16) 1 dX7_cost_16 rfl ?_
    refine V.callV (pc := 17) (e1 := eX7_reckonHistories) (o := 0) (c := 7) 0 [] [] mfX7_reckonHistories slX7_reckonHistories mlX7_158 dX7_cost_17 (kS_0) (by decide) rfl rfl rfl (Nat.le_of_ble_eq_true rfl) ⟨by decide, by decide, by decide, by decide⟩ ?_
    refine c_X7_reckonHistories hi hl σ m _ im hR _ (fun hi2 hl2 hfr2 hR2 hHQ2 => ?_)
    refine V.qV (pc := 17) rfl rfl ?_
    have hq2 := HQ_use hHQ2
    have hmb := mX_b hwf
    refine V.aload_n (pc := 20) 1 dX7_cost_20 rfl ?_
    refine V.gr (pc := 21) 7 7 36 flX7_55 dX7_cost_21 (kS_0) (by decide) (by decide) rfl (kR_0_7) ?_
    refine V.iload_n (pc := 24) 0 dX7_cost_24 rfl ?_
    refine V.callV (pc := 25) (e1 := eX2_costOf) (o := 36) (c := 2) 1 [vI ((f3 m + sayV (hi 5) m : Nat) : Int)] [] mfX2_costOf slX2_costOf mlX7_161 dX7_cost_25 (kS_36) (by decide) rfl rfl rfl (Nat.le_of_ble_eq_true rfl) ⟨by decide, by decide, by decide, by decide⟩ ?_
    refine c_X2_costOf_36 hi2 hl2 (f3 m + sayV (hi 5) m) (by omega) _ ?_
    refine V.qI (pc := 25) rfl rfl ?_
    refine V.top (v' := vI (cX σ (-1) (f3 m + sayV (hi 5) m))) (congrArg vI (hq2.1 _ hsl).1) ?_
    refine V.istore_n (pc := 28) (i := 2) dX7_cost_28 rfl (by decide) (ls' := [(2, vI (cX σ (-1) (f3 m + sayV (hi 5) m))), (1, vI ((f3 m + sayV (hi 5) m : Nat) : Int)), (0, vR 0)]) rfl ?_
    refine V.iload_n (pc := 29) 0 dX7_cost_29 rfl ?_
    refine V.sipush (pc := 30) (z := 1000) dX7_cost_30 (by decide +kernel) ⟨by decide, by decide⟩ ?_
    refine V.icmp_ge (pc := 33) 40 dX7_cost_33 (by decide) (fun h33 => ?_) (fun h33 => ?_)
    · skip
      refine V.bipush (pc := 40) (z := (-6)) dX7_cost_40 (by decide +kernel) ⟨by decide, by decide⟩ ?_
      refine V.iret (pc := 42) (z := (-6)) dX7_cost_42 rfl ?_
      have hpv : padV (σ, m, hi 5, im) = (((f3 m + sayV (hi 5) m) : Nat) : Int) := padV_y hsf
      have hA : aCost (σ, m, hi 5, im)  = -6 := by
        unfold aCost
        try dsimp only [gσ, gm, gg, gi]
        rw [hpv]
        refine (if_neg (by first | omega | assumption)).trans ?_
        exact if_neg (show ¬ cX σ (-1) (f3 m + sayV (hi 5) m) < 1000 by omega)
      rw [hA] at hq
      exact hq _ _ (by repeat (first | exact fr0 | exact hfr2 | refine fr1 (by decide) ?_ | refine fr2 (by decide) ?_ | refine fr3 (by decide) ?_ | refine fr4 (by decide) ?_)) hR2
    · skip
      refine V.iload_n (pc := 36) 0 dX7_cost_36 rfl ?_
      refine V.goto (pc := 37) 42 dX7_cost_37 (by decide) ?_
      refine V.iret (pc := 42) (z := (cX σ (-1) (f3 m + sayV (hi 5) m))) dX7_cost_42 rfl ?_
      have hpv : padV (σ, m, hi 5, im) = (((f3 m + sayV (hi 5) m) : Nat) : Int) := padV_y hsf
      have hA : aCost (σ, m, hi 5, im)  = cX σ (-1) (f3 m + sayV (hi 5) m) := by
        unfold aCost
        try dsimp only [gσ, gm, gg, gi]
        rw [hpv]
        refine (if_neg (by first | omega | assumption)).trans ?_
        exact if_pos (show cX σ (-1) (f3 m + sayV (hi 5) m) < 1000 by omega)
      rw [hA] at hq
      exact hq _ _ (by repeat (first | exact fr0 | exact hfr2 | refine fr1 (by decide) ?_ | refine fr2 (by decide) ?_ | refine fr3 (by decide) ?_ | refine fr4 (by decide) ?_)) hR2

set_option maxRecDepth 100000 in
theorem c_X7_likely (hi hl : HI) (σ : SG) (m : Nat) (g : Nat → Int) (im : Nat → Option SG) (hR : RC hi hl (σ, m, g, im)) (w : Int) (Q : QT) (hq : ∀ hi' hl' : HI, FrC hi hl hi' hl' → RC hi' hl' (σ, m, g, im) → Q (some (vI (aLik (σ, m, g, im) w))) KW hi' hl') : Con eX7_likely [vR 0, vI w] KW hi hl Q := by
  refine Con.ofV (by decide +kernel) (Nat.le_of_ble_eq_true rfl) ?_
  show V eX7_likely none KW 0 [(0, vR 0), (1, vI w)] [] hi hl 0 0 Q
  obtain ⟨hT, hC, ⟨hm, hm2, hg5, hgr⟩, ⟨k0, k1, k2, k3⟩, hfr, hwo⟩ := RC_o hR
  subst hg5
  have hwf := hC.1
  have hn16 := hwf.2.2.1
  have hbg := hwf.2.2.2.2.1
  refine V.iload_n (pc := 0) 1 dX7_likely_0 rfl ?_
  refine V.if_lt (pc := 1) 21 dX7_likely_1 (by decide) (fun h1 => ?_) (fun h1 => ?_)
  · skip
    refine V.bipush (pc := 21) (z := (-2)) dX7_likely_21 (by decide +kernel) ⟨by decide, by decide⟩ ?_
    refine V.iret (pc := 23) (z := (-2)) dX7_likely_23 rfl ?_
    have hA : aLik (σ, m, hi 5, im) w = -2 := by
      unfold aLik
      try dsimp only [gσ, gm, gg, gi]
      refine (if_pos (by first | omega | assumption)).trans ?_
      rfl
    rw [hA] at hq
    exact hq _ _ (by repeat (first | exact fr0 | refine fr1 (by decide) ?_ | refine fr2 (by decide) ?_ | refine fr3 (by decide) ?_ | refine fr4 (by decide) ?_)) hR
  · skip
    refine V.iload_n (pc := 4) 1 dX7_likely_4 rfl ?_
    refine V.iconst (pc := 5) (z := 2) dX7_likely_5 rfl ⟨by decide, by decide⟩ ?_
    refine V.icmp_le (pc := 6) 15 dX7_likely_6 (by decide) (fun h6 => ?_) (fun h6 => ?_)
    · skip
      refine V.iload_n (pc := 15) 1 dX7_likely_15 rfl ?_
      refine V.bipush (pc := 16) (z := 15) dX7_likely_16 (by decide +kernel) ⟨by decide, by decide⟩ ?_
      refine V.icmp_lt (pc := 18) 24 dX7_likely_18 (by decide) (fun h18 => ?_) (fun h18 => ?_)
      · skip
        refine V.aload_n (pc := 24) 0 dX7_likely_24 rfl ?_
        refine V.callV (pc := 25) (e1 := eX7_reckonHistories) (o := 0) (c := 7) 0 [] [] mfX7_reckonHistories slX7_reckonHistories mlX7_158 dX7_likely_25 (kS_0) (by decide) rfl rfl rfl (Nat.le_of_ble_eq_true rfl) ⟨by decide, by decide, by decide, by decide⟩ ?_
        refine c_X7_reckonHistories hi hl σ m _ im hR _ (fun hi2 hl2 hfr2 hR2 hHQ2 => ?_)
        refine V.qV (pc := 25) rfl rfl ?_
        have hq2 := HQ_use hHQ2
        have hmb := mX_b hwf
        refine V.aload_n (pc := 28) 0 dX7_likely_28 rfl ?_
        refine V.gr (pc := 29) 7 7 36 flX7_55 dX7_likely_29 (kS_0) (by decide) (by decide) rfl (kR_0_7) ?_
        refine V.gi (pc := 32) 2 5 (mX σ) flX7_164 dX7_likely_32 (kS_36) (by decide) (by decide) rfl (hq2.2.1) ?_
        refine V.sipush (pc := 35) (z := 1000) dX7_likely_35 (by decide +kernel) ⟨by decide, by decide⟩ ?_
        refine V.icmp_ne (pc := 38) 44 dX7_likely_38 (by decide) (fun h38 => ?_) (fun h38 => ?_)
        · obtain ⟨q6, q7, q8⟩ := hq2.2.2 (by omega)
          have htf := tX_f (show mX σ < 1000 by omega)
          refine V.iload_n (pc := 44) 1 dX7_likely_44 rfl ?_
          refine V.if_ne (pc := 45) 56 dX7_likely_45 (by decide) (fun h45 => ?_) (fun h45 => ?_)
          · skip
            refine V.iload_n (pc := 56) 1 dX7_likely_56 rfl ?_
            refine V.iconst (pc := 57) (z := 1) dX7_likely_57 rfl ⟨by decide, by decide⟩ ?_
            refine V.icmp_ne (pc := 58) 69 dX7_likely_58 (by decide) (fun h58 => ?_) (fun h58 => ?_)
            · skip
              refine V.iload_n (pc := 69) 1 dX7_likely_69 rfl ?_
              refine V.iconst (pc := 70) (z := 2) dX7_likely_70 rfl ⟨by decide, by decide⟩ ?_
              refine V.icmp_ne (pc := 71) 85 dX7_likely_71 (by decide) (fun h71 => ?_) (fun h71 => ?_)
              · skip
                refine V.aload_n (pc := 85) 0 dX7_likely_85 rfl ?_
                refine V.gr (pc := 86) 7 7 36 flX7_55 dX7_likely_86 (kS_0) (by decide) (by decide) rfl (kR_0_7) ?_
                refine V.gi (pc := 89) 2 7 ((tX σ).2.1) flX7_170 dX7_likely_89 (kS_36) (by decide) (by decide) rfl (q7) ?_
                refine V.iload_n (pc := 92) 1 dX7_likely_92 rfl ?_
                refine V.bipush (pc := 93) (z := 10) dX7_likely_93 (by decide +kernel) ⟨by decide, by decide⟩ ?_
                refine V.isub (pc := 95) ((w - 10)) dX7_likely_95 (w32_of (by omega) (by omega) (by omega)) ?_
                refine V.callS (pc := 96) (e1 := eX7_wordOf) 2 [vI ((tX σ).2.1), vI (w - 10)] [] mfX7_wordOf slX7_wordOf mlX7_152 dX7_likely_96 rfl rfl (Nat.le_of_ble_eq_true rfl) ⟨by decide, by decide, by decide, by decide⟩ ?_
                refine c_X7_wordOf KW hi2 hl2 ((tX σ).2.1) (w - 10) (by omega) _ ?_
                refine V.qI (pc := 96) rfl rfl ?_
                refine V.iret (pc := 99) (z := (wordO ((tX σ).2.1) (w - 10))) dX7_likely_99 rfl ?_
                have hA : aLik (σ, m, hi 5, im) w = wordO (tX σ).2.1 (w - 10) := by
                  unfold aLik
                  try dsimp only [gσ, gm, gg, gi]
                  refine (if_neg (by first | omega | assumption)).trans ?_
                  refine (if_neg (by first | omega | assumption)).trans ?_
                  refine (if_neg (by first | omega | assumption)).trans ?_
                  refine (if_neg (by first | omega | assumption)).trans ?_
                  refine (if_neg (by first | omega | assumption)).trans ?_
                  unfold wordO
                  rw [if_neg (by omega)]
                rw [hA] at hq
                exact hq _ _ (by repeat (first | exact fr0 | exact hfr2 | refine fr1 (by decide) ?_ | refine fr2 (by decide) ?_ | refine fr3 (by decide) ?_ | refine fr4 (by decide) ?_)) hR2
              · skip
                refine V.aload_n (pc := 74) 0 dX7_likely_74 rfl ?_
                refine V.gr (pc := 75) 7 7 36 flX7_55 dX7_likely_75 (kS_0) (by decide) (by decide) rfl (kR_0_7) ?_
                refine V.gi (pc := 78) 2 7 ((((tX σ).2.1.toNat) : Nat) : Int) flX7_170 dX7_likely_78 (kS_36) (by decide) (by decide) rfl (q7.trans (Int.toNat_of_nonneg htf.1).symm) ?_
                refine V.callS (pc := 81) (e1 := eX7_lengthOf) 1 [vI ((((tX σ).2.1.toNat) : Nat) : Int)] [] mfX7_lengthOf slX7_lengthOf mlX7_142 dX7_likely_81 rfl rfl (Nat.le_of_ble_eq_true rfl) ⟨by decide, by decide, by decide, by decide⟩ ?_
                refine c_X7_lengthOf KW hi2 hl2 ((tX σ).2.1.toNat) (by omega) _ ?_
                refine V.qI (pc := 81) rfl rfl ?_
                refine V.iret (pc := 84) (z := ((L3 ((tX σ).2.1.toNat) : Nat) : Int)) dX7_likely_84 rfl ?_
                have hA : aLik (σ, m, hi 5, im) w = (L3 (tX σ).2.1.toNat : Nat) := by
                  unfold aLik
                  try dsimp only [gσ, gm, gg, gi]
                  refine (if_neg (by first | omega | assumption)).trans ?_
                  refine (if_neg (by first | omega | assumption)).trans ?_
                  refine (if_neg (by first | omega | assumption)).trans ?_
                  refine (if_neg (by first | omega | assumption)).trans ?_
                  refine (if_pos (by first | omega | assumption)).trans ?_
                  exact wordS_len _
                rw [hA] at hq
                exact hq _ _ (by repeat (first | exact fr0 | exact hfr2 | refine fr1 (by decide) ?_ | refine fr2 (by decide) ?_ | refine fr3 (by decide) ?_ | refine fr4 (by decide) ?_)) hR2
            · skip
              refine V.aload_n (pc := 61) 0 dX7_likely_61 rfl ?_
              refine V.gr (pc := 62) 7 7 36 flX7_55 dX7_likely_62 (kS_0) (by decide) (by decide) rfl (kR_0_7) ?_
              refine V.gi (pc := 65) 2 6 ((tX σ).1) flX7_167 dX7_likely_65 (kS_36) (by decide) (by decide) rfl (q6) ?_
              refine V.iret (pc := 68) (z := ((tX σ).1)) dX7_likely_68 rfl ?_
              have hA : aLik (σ, m, hi 5, im) w = (tX σ).1 := by
                unfold aLik
                try dsimp only [gσ, gm, gg, gi]
                refine (if_neg (by first | omega | assumption)).trans ?_
                refine (if_neg (by first | omega | assumption)).trans ?_
                refine (if_neg (by first | omega | assumption)).trans ?_
                refine (if_pos (by first | omega | assumption)).trans ?_
                rfl
              rw [hA] at hq
              exact hq _ _ (by repeat (first | exact fr0 | exact hfr2 | refine fr1 (by decide) ?_ | refine fr2 (by decide) ?_ | refine fr3 (by decide) ?_ | refine fr4 (by decide) ?_)) hR2
          · skip
            refine V.aload_n (pc := 48) 0 dX7_likely_48 rfl ?_
            refine V.gr (pc := 49) 7 7 36 flX7_55 dX7_likely_49 (kS_0) (by decide) (by decide) rfl (kR_0_7) ?_
            refine V.gi (pc := 52) 2 5 (mX σ) flX7_164 dX7_likely_52 (kS_36) (by decide) (by decide) rfl (hq2.2.1) ?_
            refine V.iret (pc := 55) (z := (mX σ)) dX7_likely_55 rfl ?_
            have hA : aLik (σ, m, hi 5, im) w = mX σ := by
              unfold aLik
              try dsimp only [gσ, gm, gg, gi]
              refine (if_neg (by first | omega | assumption)).trans ?_
              refine (if_neg (by first | omega | assumption)).trans ?_
              refine (if_pos (by first | omega | assumption)).trans ?_
              rfl
            rw [hA] at hq
            exact hq _ _ (by repeat (first | exact fr0 | exact hfr2 | refine fr1 (by decide) ?_ | refine fr2 (by decide) ?_ | refine fr3 (by decide) ?_ | refine fr4 (by decide) ?_)) hR2
        · skip
          refine V.bipush (pc := 41) (z := (-6)) dX7_likely_41 (by decide +kernel) ⟨by decide, by decide⟩ ?_
          refine V.iret (pc := 43) (z := (-6)) dX7_likely_43 rfl ?_
          have hA : aLik (σ, m, hi 5, im) w = -6 := by
            unfold aLik
            try dsimp only [gσ, gm, gg, gi]
            refine (if_neg (by first | omega | assumption)).trans ?_
            refine (if_pos (by first | omega | assumption)).trans ?_
            rfl
          rw [hA] at hq
          exact hq _ _ (by repeat (first | exact fr0 | exact hfr2 | refine fr1 (by decide) ?_ | refine fr2 (by decide) ?_ | refine fr3 (by decide) ?_ | refine fr4 (by decide) ?_)) hR2
      · skip
        refine V.bipush (pc := 21) (z := (-2)) dX7_likely_21 (by decide +kernel) ⟨by decide, by decide⟩ ?_
        refine V.iret (pc := 23) (z := (-2)) dX7_likely_23 rfl ?_
        have hA : aLik (σ, m, hi 5, im) w = -2 := by
          unfold aLik
          try dsimp only [gσ, gm, gg, gi]
          refine (if_pos (by first | omega | assumption)).trans ?_
          rfl
        rw [hA] at hq
        exact hq _ _ (by repeat (first | exact fr0 | refine fr1 (by decide) ?_ | refine fr2 (by decide) ?_ | refine fr3 (by decide) ?_ | refine fr4 (by decide) ?_)) hR
    · skip
      refine V.iload_n (pc := 9) 1 dX7_likely_9 rfl ?_
      refine V.bipush (pc := 10) (z := 10) dX7_likely_10 (by decide +kernel) ⟨by decide, by decide⟩ ?_
      refine V.icmp_lt (pc := 12) 21 dX7_likely_12 (by decide) (fun h12 => ?_) (fun h12 => ?_)
      · skip
        refine V.bipush (pc := 21) (z := (-2)) dX7_likely_21 (by decide +kernel) ⟨by decide, by decide⟩ ?_
        refine V.iret (pc := 23) (z := (-2)) dX7_likely_23 rfl ?_
        have hA : aLik (σ, m, hi 5, im) w = -2 := by
          unfold aLik
          try dsimp only [gσ, gm, gg, gi]
          refine (if_pos (by first | omega | assumption)).trans ?_
          rfl
        rw [hA] at hq
        exact hq _ _ (by repeat (first | exact fr0 | refine fr1 (by decide) ?_ | refine fr2 (by decide) ?_ | refine fr3 (by decide) ?_ | refine fr4 (by decide) ?_)) hR
      · skip
        refine V.iload_n (pc := 15) 1 dX7_likely_15 rfl ?_
        refine V.bipush (pc := 16) (z := 15) dX7_likely_16 (by decide +kernel) ⟨by decide, by decide⟩ ?_
        refine V.icmp_lt (pc := 18) 24 dX7_likely_18 (by decide) (fun h18 => ?_) (fun h18 => ?_)
        · skip
          refine V.aload_n (pc := 24) 0 dX7_likely_24 rfl ?_
          refine V.callV (pc := 25) (e1 := eX7_reckonHistories) (o := 0) (c := 7) 0 [] [] mfX7_reckonHistories slX7_reckonHistories mlX7_158 dX7_likely_25 (kS_0) (by decide) rfl rfl rfl (Nat.le_of_ble_eq_true rfl) ⟨by decide, by decide, by decide, by decide⟩ ?_
          refine c_X7_reckonHistories hi hl σ m _ im hR _ (fun hi2 hl2 hfr2 hR2 hHQ2 => ?_)
          refine V.qV (pc := 25) rfl rfl ?_
          have hq2 := HQ_use hHQ2
          have hmb := mX_b hwf
          refine V.aload_n (pc := 28) 0 dX7_likely_28 rfl ?_
          refine V.gr (pc := 29) 7 7 36 flX7_55 dX7_likely_29 (kS_0) (by decide) (by decide) rfl (kR_0_7) ?_
          refine V.gi (pc := 32) 2 5 (mX σ) flX7_164 dX7_likely_32 (kS_36) (by decide) (by decide) rfl (hq2.2.1) ?_
          refine V.sipush (pc := 35) (z := 1000) dX7_likely_35 (by decide +kernel) ⟨by decide, by decide⟩ ?_
          refine V.icmp_ne (pc := 38) 44 dX7_likely_38 (by decide) (fun h38 => ?_) (fun h38 => ?_)
          · obtain ⟨q6, q7, q8⟩ := hq2.2.2 (by omega)
            have htf := tX_f (show mX σ < 1000 by omega)
            refine V.iload_n (pc := 44) 1 dX7_likely_44 rfl ?_
            refine V.if_ne (pc := 45) 56 dX7_likely_45 (by decide) (fun h45 => ?_) (fun h45 => ?_)
            · skip
              refine V.iload_n (pc := 56) 1 dX7_likely_56 rfl ?_
              refine V.iconst (pc := 57) (z := 1) dX7_likely_57 rfl ⟨by decide, by decide⟩ ?_
              refine V.icmp_ne (pc := 58) 69 dX7_likely_58 (by decide) (fun h58 => ?_) (fun h58 => ?_)
              · skip
                refine V.iload_n (pc := 69) 1 dX7_likely_69 rfl ?_
                refine V.iconst (pc := 70) (z := 2) dX7_likely_70 rfl ⟨by decide, by decide⟩ ?_
                refine V.icmp_ne (pc := 71) 85 dX7_likely_71 (by decide) (fun h71 => ?_) (fun h71 => ?_)
                · skip
                  refine V.aload_n (pc := 85) 0 dX7_likely_85 rfl ?_
                  refine V.gr (pc := 86) 7 7 36 flX7_55 dX7_likely_86 (kS_0) (by decide) (by decide) rfl (kR_0_7) ?_
                  refine V.gi (pc := 89) 2 7 ((tX σ).2.1) flX7_170 dX7_likely_89 (kS_36) (by decide) (by decide) rfl (q7) ?_
                  refine V.iload_n (pc := 92) 1 dX7_likely_92 rfl ?_
                  refine V.bipush (pc := 93) (z := 10) dX7_likely_93 (by decide +kernel) ⟨by decide, by decide⟩ ?_
                  refine V.isub (pc := 95) ((w - 10)) dX7_likely_95 (w32_of (by omega) (by omega) (by omega)) ?_
                  refine V.callS (pc := 96) (e1 := eX7_wordOf) 2 [vI ((tX σ).2.1), vI (w - 10)] [] mfX7_wordOf slX7_wordOf mlX7_152 dX7_likely_96 rfl rfl (Nat.le_of_ble_eq_true rfl) ⟨by decide, by decide, by decide, by decide⟩ ?_
                  refine c_X7_wordOf KW hi2 hl2 ((tX σ).2.1) (w - 10) (by omega) _ ?_
                  refine V.qI (pc := 96) rfl rfl ?_
                  refine V.iret (pc := 99) (z := (wordO ((tX σ).2.1) (w - 10))) dX7_likely_99 rfl ?_
                  have hA : aLik (σ, m, hi 5, im) w = wordO (tX σ).2.1 (w - 10) := by
                    unfold aLik
                    try dsimp only [gσ, gm, gg, gi]
                    refine (if_neg (by first | omega | assumption)).trans ?_
                    refine (if_neg (by first | omega | assumption)).trans ?_
                    refine (if_neg (by first | omega | assumption)).trans ?_
                    refine (if_neg (by first | omega | assumption)).trans ?_
                    refine (if_neg (by first | omega | assumption)).trans ?_
                    unfold wordO
                    rw [if_neg (by omega)]
                  rw [hA] at hq
                  exact hq _ _ (by repeat (first | exact fr0 | exact hfr2 | refine fr1 (by decide) ?_ | refine fr2 (by decide) ?_ | refine fr3 (by decide) ?_ | refine fr4 (by decide) ?_)) hR2
                · skip
                  refine V.aload_n (pc := 74) 0 dX7_likely_74 rfl ?_
                  refine V.gr (pc := 75) 7 7 36 flX7_55 dX7_likely_75 (kS_0) (by decide) (by decide) rfl (kR_0_7) ?_
                  refine V.gi (pc := 78) 2 7 ((((tX σ).2.1.toNat) : Nat) : Int) flX7_170 dX7_likely_78 (kS_36) (by decide) (by decide) rfl (q7.trans (Int.toNat_of_nonneg htf.1).symm) ?_
                  refine V.callS (pc := 81) (e1 := eX7_lengthOf) 1 [vI ((((tX σ).2.1.toNat) : Nat) : Int)] [] mfX7_lengthOf slX7_lengthOf mlX7_142 dX7_likely_81 rfl rfl (Nat.le_of_ble_eq_true rfl) ⟨by decide, by decide, by decide, by decide⟩ ?_
                  refine c_X7_lengthOf KW hi2 hl2 ((tX σ).2.1.toNat) (by omega) _ ?_
                  refine V.qI (pc := 81) rfl rfl ?_
                  refine V.iret (pc := 84) (z := ((L3 ((tX σ).2.1.toNat) : Nat) : Int)) dX7_likely_84 rfl ?_
                  have hA : aLik (σ, m, hi 5, im) w = (L3 (tX σ).2.1.toNat : Nat) := by
                    unfold aLik
                    try dsimp only [gσ, gm, gg, gi]
                    refine (if_neg (by first | omega | assumption)).trans ?_
                    refine (if_neg (by first | omega | assumption)).trans ?_
                    refine (if_neg (by first | omega | assumption)).trans ?_
                    refine (if_neg (by first | omega | assumption)).trans ?_
                    refine (if_pos (by first | omega | assumption)).trans ?_
                    exact wordS_len _
                  rw [hA] at hq
                  exact hq _ _ (by repeat (first | exact fr0 | exact hfr2 | refine fr1 (by decide) ?_ | refine fr2 (by decide) ?_ | refine fr3 (by decide) ?_ | refine fr4 (by decide) ?_)) hR2
              · skip
                refine V.aload_n (pc := 61) 0 dX7_likely_61 rfl ?_
                refine V.gr (pc := 62) 7 7 36 flX7_55 dX7_likely_62 (kS_0) (by decide) (by decide) rfl (kR_0_7) ?_
                refine V.gi (pc := 65) 2 6 ((tX σ).1) flX7_167 dX7_likely_65 (kS_36) (by decide) (by decide) rfl (q6) ?_
                refine V.iret (pc := 68) (z := ((tX σ).1)) dX7_likely_68 rfl ?_
                have hA : aLik (σ, m, hi 5, im) w = (tX σ).1 := by
                  unfold aLik
                  try dsimp only [gσ, gm, gg, gi]
                  refine (if_neg (by first | omega | assumption)).trans ?_
                  refine (if_neg (by first | omega | assumption)).trans ?_
                  refine (if_neg (by first | omega | assumption)).trans ?_
                  refine (if_pos (by first | omega | assumption)).trans ?_
                  rfl
                rw [hA] at hq
                exact hq _ _ (by repeat (first | exact fr0 | exact hfr2 | refine fr1 (by decide) ?_ | refine fr2 (by decide) ?_ | refine fr3 (by decide) ?_ | refine fr4 (by decide) ?_)) hR2
            · skip
              refine V.aload_n (pc := 48) 0 dX7_likely_48 rfl ?_
              refine V.gr (pc := 49) 7 7 36 flX7_55 dX7_likely_49 (kS_0) (by decide) (by decide) rfl (kR_0_7) ?_
              refine V.gi (pc := 52) 2 5 (mX σ) flX7_164 dX7_likely_52 (kS_36) (by decide) (by decide) rfl (hq2.2.1) ?_
              refine V.iret (pc := 55) (z := (mX σ)) dX7_likely_55 rfl ?_
              have hA : aLik (σ, m, hi 5, im) w = mX σ := by
                unfold aLik
                try dsimp only [gσ, gm, gg, gi]
                refine (if_neg (by first | omega | assumption)).trans ?_
                refine (if_neg (by first | omega | assumption)).trans ?_
                refine (if_pos (by first | omega | assumption)).trans ?_
                rfl
              rw [hA] at hq
              exact hq _ _ (by repeat (first | exact fr0 | exact hfr2 | refine fr1 (by decide) ?_ | refine fr2 (by decide) ?_ | refine fr3 (by decide) ?_ | refine fr4 (by decide) ?_)) hR2
          · skip
            refine V.bipush (pc := 41) (z := (-6)) dX7_likely_41 (by decide +kernel) ⟨by decide, by decide⟩ ?_
            refine V.iret (pc := 43) (z := (-6)) dX7_likely_43 rfl ?_
            have hA : aLik (σ, m, hi 5, im) w = -6 := by
              unfold aLik
              try dsimp only [gσ, gm, gg, gi]
              refine (if_neg (by first | omega | assumption)).trans ?_
              refine (if_pos (by first | omega | assumption)).trans ?_
              rfl
            rw [hA] at hq
            exact hq _ _ (by repeat (first | exact fr0 | exact hfr2 | refine fr1 (by decide) ?_ | refine fr2 (by decide) ?_ | refine fr3 (by decide) ?_ | refine fr4 (by decide) ?_)) hR2
        · skip
          refine V.bipush (pc := 21) (z := (-2)) dX7_likely_21 (by decide +kernel) ⟨by decide, by decide⟩ ?_
          refine V.iret (pc := 23) (z := (-2)) dX7_likely_23 rfl ?_
          have hA : aLik (σ, m, hi 5, im) w = -2 := by
            unfold aLik
            try dsimp only [gσ, gm, gg, gi]
            refine (if_pos (by first | omega | assumption)).trans ?_
            rfl
          rw [hA] at hq
          exact hq _ _ (by repeat (first | exact fr0 | refine fr1 (by decide) ?_ | refine fr2 (by decide) ?_ | refine fr3 (by decide) ?_ | refine fr4 (by decide) ?_)) hR

set_option maxRecDepth 100000 in
theorem c_X7_ways (hi hl : HI) (σ : SG) (m : Nat) (g : Nat → Int) (im : Nat → Option SG) (hR : RC hi hl (σ, m, g, im))  (Q : QT) (hq : ∀ hi' hl' : HI, FrC hi hl hi' hl' → RC hi' hl' (σ, m, g, im) → Q (some (vL (aWays (σ, m, g, im) ))) KW hi' hl') : Con eX7_ways [vR 0] KW hi hl Q := by
  refine Con.ofV (by decide +kernel) (Nat.le_of_ble_eq_true rfl) ?_
  show V eX7_ways none KW 0 [(0, vR 0)] [] hi hl 0 0 Q
  obtain ⟨hT, hC, ⟨hm, hm2, hg5, hgr⟩, ⟨k0, k1, k2, k3⟩, hfr, hwo⟩ := RC_o hR
  subst hg5
  have hwf := hC.1
  have hn16 := hwf.2.2.1
  have hbg := hwf.2.2.2.2.1
  refine V.aload_n (pc := 0) 0 dX7_ways_0 rfl ?_
  refine V.gr (pc := 1) 7 1 4 flX7_19 dX7_ways_1 (kS_0) (by decide) (by decide) rfl (kR_0_1) ?_
  refine V.callV (pc := 4) (e1 := eX3_readSaying) (o := 4) (c := 3) 0 [] [] mfX3_readSaying slX3_readSaying mlX7_131 dX7_ways_4 (kS_4) (by decide) rfl rfl rfl (Nat.le_of_ble_eq_true rfl) ⟨by decide, by decide, by decide, by decide⟩ ?_
  refine c_X3_readSaying hi hl m hm hm2 _ (fun hsf => ?_) (fun hsf => ?_)
  · have hsf : sayF (hi 5) m ≠ -6 := hsf
    refine V.qI (pc := 4) rfl rfl ?_
    refine V.istore_n (pc := 7) (i := 1) dX7_ways_7 rfl (by decide) (ls' := [(1, vI (-1)), (0, vR 0)]) rfl ?_
    refine V.iload_n (pc := 8) 0 dX7_ways_8 rfl ?_
    refine V.iconst (pc := 9) (z := (-1)) dX7_ways_9 rfl ⟨by decide, by decide⟩ ?_
    refine V.icmp_ne (pc := 10) 17 dX7_ways_10 (by decide) (fun hc => by exact absurd hc (by decide)) (fun h10 => ?_)
    refine V.ldc2 (pc := 13) (z := (-1000000000000000005)) clX7_173 dX7_ways_13 ⟨by decide, by decide⟩ ?_
    refine V.lret (pc := 16) (z := (-1000000000000000005)) dX7_ways_16 rfl ?_
    have hpv : padV (σ, m, hi 5, im) = -1 := padV_n hsf
    have hA : aWays (σ, m, hi 5, im)  = -1000000000000000005 := by
      unfold aWays
      try dsimp only [gσ, gm, gg, gi]
      refine (if_pos (by first | omega | assumption)).trans ?_
      rfl
    rw [hA] at hq
    exact hq _ _ (by repeat (first | exact fr0 | refine fr1 (by decide) ?_ | refine fr2 (by decide) ?_ | refine fr3 (by decide) ?_ | refine fr4 (by decide) ?_)) hR
  · have hsf : sayF (hi 5) m = -6 := hsf
    have hsl := padS_lt hsf
    refine V.qI (pc := 4) rfl rfl ?_
    refine V.istore_n (pc := 7) (i := 1) dX7_ways_7 rfl (by decide) (ls' := [(1, vI ((f3 m + sayV (hi 5) m : Nat) : Int)), (0, vR 0)]) rfl ?_
    refine V.iload_n (pc := 8) 0 dX7_ways_8 rfl ?_
    refine V.iconst (pc := 9) (z := (-1)) dX7_ways_9 rfl ⟨by decide, by decide⟩ ?_
    refine V.icmp_ne (pc := 10) 17 dX7_ways_10 (by decide) (fun h10 => ?_) (fun hc => by exfalso; omega)
    refine V.aload_n (pc := 17) 1 dX7_ways_17 rfl ?_
    refine V.callV (pc := 18) (e1 := eX7_reckonHistories) (o := 0) (c := 7) 0 [] [] mfX7_reckonHistories slX7_reckonHistories mlX7_158 dX7_ways_18 (kS_0) (by decide) rfl rfl rfl (Nat.le_of_ble_eq_true rfl) ⟨by decide, by decide, by decide, by decide⟩ ?_
    refine c_X7_reckonHistories hi hl σ m _ im hR _ (fun hi2 hl2 hfr2 hR2 hHQ2 => ?_)
    refine V.qV (pc := 18) rfl rfl ?_
    have hq2 := HQ_use hHQ2
    have hmb := mX_b hwf
    refine V.aload_n (pc := 21) 1 dX7_ways_21 rfl ?_
    refine V.gr (pc := 22) 7 7 36 flX7_55 dX7_ways_22 (kS_0) (by decide) (by decide) rfl (kR_0_7) ?_
    refine V.iload_n (pc := 25) 0 dX7_ways_25 rfl ?_
    refine V.callV (pc := 26) (e1 := eX2_waysOf) (o := 36) (c := 2) 1 [vI ((f3 m + sayV (hi 5) m : Nat) : Int)] [] mfX2_waysOf slX2_waysOf mlX7_175 dX7_ways_26 (kS_36) (by decide) rfl rfl rfl (Nat.le_of_ble_eq_true rfl) ⟨by decide, by decide, by decide, by decide⟩ ?_
    refine c_X2_waysOf_36 hi2 hl2 _ _ rfl rfl (f3 m + sayV (hi 5) m) (by omega) _ ?_
    refine V.qJ (pc := 26) rfl rfl ?_
    refine V.top (v' := vL (wX σ (f3 m + sayV (hi 5) m))) (congrArg vL (by unfold wX; rw [(hq2.1 _ hsl).1, (hq2.1 _ hsl).2, hq2.2.1])) ?_
    refine V.lret (pc := 29) (z := (wX σ (f3 m + sayV (hi 5) m))) dX7_ways_29 rfl ?_
    have hpv : padV (σ, m, hi 5, im) = (((f3 m + sayV (hi 5) m) : Nat) : Int) := padV_y hsf
    have hA : aWays (σ, m, hi 5, im)  = wX σ (f3 m + sayV (hi 5) m) := by
      unfold aWays
      try dsimp only [gσ, gm, gg, gi]
      rw [hpv]
      refine (if_neg (by first | omega | assumption)).trans ?_
      rfl
    rw [hA] at hq
    exact hq _ _ (by repeat (first | exact fr0 | exact hfr2 | refine fr1 (by decide) ?_ | refine fr2 (by decide) ?_ | refine fr3 (by decide) ?_ | refine fr4 (by decide) ?_)) hR2

set_option maxRecDepth 100000 in
theorem c_X7_canBe (hi hl : HI) (σ : SG) (m : Nat) (g : Nat → Int) (im : Nat → Option SG) (hR : RC hi hl (σ, m, g, im)) (k : Int) (Q : QT) (hq : ∀ hi' hl' : HI, FrC hi hl hi' hl' → RC hi' hl' (σ, m, g, im) → Q (some (vI (aCan (σ, m, g, im) k))) KW hi' hl') : Con eX7_canBe [vR 0, vI k] KW hi hl Q := by
  refine Con.ofV (by decide +kernel) (Nat.le_of_ble_eq_true rfl) ?_
  show V eX7_canBe none KW 0 [(0, vR 0), (1, vI k)] [] hi hl 0 0 Q
  obtain ⟨hT, hC, ⟨hm, hm2, hg5, hgr⟩, ⟨k0, k1, k2, k3⟩, hfr, hwo⟩ := RC_o hR
  subst hg5
  have hwf := hC.1
  have hn16 := hwf.2.2.1
  have hbg := hwf.2.2.2.2.1
  refine V.iload_n (pc := 0) 1 dX7_canBe_0 rfl ?_
  refine V.if_lt (pc := 1) 10 dX7_canBe_1 (by decide) (fun h1 => ?_) (fun h1 => ?_)
  · skip
    refine V.bipush (pc := 10) (z := (-2)) dX7_canBe_10 (by decide +kernel) ⟨by decide, by decide⟩ ?_
    refine V.iret (pc := 12) (z := (-2)) dX7_canBe_12 rfl ?_
    have hA : aCan (σ, m, hi 5, im) k = -2 := by
      unfold aCan
      try dsimp only [gσ, gm, gg, gi]
      refine (if_pos (by first | omega | assumption)).trans ?_
      rfl
    rw [hA] at hq
    exact hq _ _ (by repeat (first | exact fr0 | refine fr1 (by decide) ?_ | refine fr2 (by decide) ?_ | refine fr3 (by decide) ?_ | refine fr4 (by decide) ?_)) hR
  · skip
    refine V.iload_n (pc := 4) 1 dX7_canBe_4 rfl ?_
    refine V.bipush (pc := 5) (z := 16) dX7_canBe_5 (by decide +kernel) ⟨by decide, by decide⟩ ?_
    refine V.icmp_le (pc := 7) 13 dX7_canBe_7 (by decide) (fun h7 => ?_) (fun h7 => ?_)
    · skip
      refine V.aload_n (pc := 13) 0 dX7_canBe_13 rfl ?_
      refine V.callV (pc := 14) (e1 := eX7_reckonHistories) (o := 0) (c := 7) 0 [] [] mfX7_reckonHistories slX7_reckonHistories mlX7_158 dX7_canBe_14 (kS_0) (by decide) rfl rfl rfl (Nat.le_of_ble_eq_true rfl) ⟨by decide, by decide, by decide, by decide⟩ ?_
      refine c_X7_reckonHistories hi hl σ m _ im hR _ (fun hi2 hl2 hfr2 hR2 hHQ2 => ?_)
      refine V.qV (pc := 14) rfl rfl ?_
      have hq2 := HQ_use hHQ2
      have hmb := mX_b hwf
      refine V.aload_n (pc := 17) 0 dX7_canBe_17 rfl ?_
      refine V.gr (pc := 18) 7 7 36 flX7_55 dX7_canBe_18 (kS_0) (by decide) (by decide) rfl (kR_0_7) ?_
      refine V.iload_n (pc := 21) 1 dX7_canBe_21 rfl ?_
      refine V.callV (pc := 22) (e1 := eX2_countUpTo) (o := 36) (c := 2) 1 [vI k] [] mfX2_countUpTo slX2_countUpTo mlX7_191 dX7_canBe_22 (kS_36) (by decide) rfl rfl rfl (Nat.le_of_ble_eq_true rfl) ⟨by decide, by decide, by decide, by decide⟩ ?_
      refine c_X2_countUpTo_36 hi2 hl2 _ rfl k _ ?_
      refine V.qI (pc := 22) rfl rfl ?_
      refine V.top (v' := vI ((ctF (cX σ (-1)) k 364 : Nat) : Int)) (congrArg (fun x : Nat => vI (x : Int)) (ctF_congr (fun v hv => (hq2.1 v hv).1) 364 (Nat.le_refl _))) ?_
      refine V.iret (pc := 25) (z := ((ctF (cX σ (-1)) k 364 : Nat) : Int)) dX7_canBe_25 rfl ?_
      have hA : aCan (σ, m, hi 5, im) k = (ctF (cX σ (-1)) k 364 : Nat) := by
        unfold aCan
        try dsimp only [gσ, gm, gg, gi]
        refine (if_neg (by first | omega | assumption)).trans ?_
        rfl
      rw [hA] at hq
      exact hq _ _ (by repeat (first | exact fr0 | exact hfr2 | refine fr1 (by decide) ?_ | refine fr2 (by decide) ?_ | refine fr3 (by decide) ?_ | refine fr4 (by decide) ?_)) hR2
    · skip
      refine V.bipush (pc := 10) (z := (-2)) dX7_canBe_10 (by decide +kernel) ⟨by decide, by decide⟩ ?_
      refine V.iret (pc := 12) (z := (-2)) dX7_canBe_12 rfl ?_
      have hA : aCan (σ, m, hi 5, im) k = -2 := by
        unfold aCan
        try dsimp only [gσ, gm, gg, gi]
        refine (if_pos (by first | omega | assumption)).trans ?_
        rfl
      rw [hA] at hq
      exact hq _ _ (by repeat (first | exact fr0 | refine fr1 (by decide) ?_ | refine fr2 (by decide) ?_ | refine fr3 (by decide) ?_ | refine fr4 (by decide) ?_)) hR

set_option maxRecDepth 100000 in
theorem c_X7_taught (hi hl : HI) (σ : SG) (m : Nat) (g : Nat → Int) (im : Nat → Option SG) (hR : RC hi hl (σ, m, g, im)) (k : Int) (Q : QT) (hq : ∀ hi' hl' : HI, FrC hi hl hi' hl' → RC hi' hl' (σ, m, g, im) → Q (some (vI (aTau (σ, m, g, im) k))) KW hi' hl') : Con eX7_taught [vR 0, vI k] KW hi hl Q := by
  refine Con.ofV (by decide +kernel) (Nat.le_of_ble_eq_true rfl) ?_
  show V eX7_taught none KW 0 [(0, vR 0), (1, vI k)] [] hi hl 0 0 Q
  obtain ⟨hT, hC, ⟨hm, hm2, hg5, hgr⟩, ⟨k0, k1, k2, k3⟩, hfr, hwo⟩ := RC_o hR
  subst hg5
  have hwf := hC.1
  have hn16 := hwf.2.2.1
  have hbg := hwf.2.2.2.2.1
  refine V.iload_n (pc := 0) 1 dX7_taught_0 rfl ?_
  refine V.if_lt (pc := 1) 10 dX7_taught_1 (by decide) (fun h1 => ?_) (fun h1 => ?_)
  · skip
    refine V.bipush (pc := 10) (z := (-2)) dX7_taught_10 (by decide +kernel) ⟨by decide, by decide⟩ ?_
    refine V.iret (pc := 12) (z := (-2)) dX7_taught_12 rfl ?_
    have hA : aTau (σ, m, hi 5, im) k = -2 := by
      unfold aTau
      try dsimp only [gσ, gm, gg, gi]
      refine (if_pos (by first | omega | assumption)).trans ?_
      rfl
    rw [hA] at hq
    exact hq _ _ (by repeat (first | exact fr0 | refine fr1 (by decide) ?_ | refine fr2 (by decide) ?_ | refine fr3 (by decide) ?_ | refine fr4 (by decide) ?_)) hR
  · skip
    refine V.iload_n (pc := 4) 1 dX7_taught_4 rfl ?_
    refine V.bipush (pc := 5) (z := 16) dX7_taught_5 (by decide +kernel) ⟨by decide, by decide⟩ ?_
    refine V.icmp_le (pc := 7) 13 dX7_taught_7 (by decide) (fun h7 => ?_) (fun h7 => ?_)
    · skip
      refine V.aload_n (pc := 13) 0 dX7_taught_13 rfl ?_
      refine V.callV (pc := 14) (e1 := eX7_reckonHistories) (o := 0) (c := 7) 0 [] [] mfX7_reckonHistories slX7_reckonHistories mlX7_158 dX7_taught_14 (kS_0) (by decide) rfl rfl rfl (Nat.le_of_ble_eq_true rfl) ⟨by decide, by decide, by decide, by decide⟩ ?_
      refine c_X7_reckonHistories hi hl σ m _ im hR _ (fun hi2 hl2 hfr2 hR2 hHQ2 => ?_)
      refine V.qV (pc := 14) rfl rfl ?_
      have hq2 := HQ_use hHQ2
      have hmb := mX_b hwf
      refine V.aload_n (pc := 17) 0 dX7_taught_17 rfl ?_
      refine V.gr (pc := 18) 7 7 36 flX7_55 dX7_taught_18 (kS_0) (by decide) (by decide) rfl (kR_0_7) ?_
      refine V.gi (pc := 21) 2 5 (mX σ) flX7_164 dX7_taught_21 (kS_36) (by decide) (by decide) rfl (hq2.2.1) ?_
      refine V.iload_n (pc := 24) 1 dX7_taught_24 rfl ?_
      refine V.icmp_gt (pc := 25) 31 dX7_taught_25 (by decide) (fun h25 => ?_) (fun h25 => ?_)
      · skip
        refine V.aload_n (pc := 31) 0 dX7_taught_31 rfl ?_
        refine V.callV (pc := 32) (e1 := eX7_reckonWithout) (o := 0) (c := 7) 0 [] [] mfX7_reckonWithout slX7_reckonWithout mlX7_194 dX7_taught_32 (kS_0) (by decide) rfl rfl rfl (Nat.le_of_ble_eq_true rfl) ⟨by decide, by decide, by decide, by decide⟩ ?_
        refine c_X7_reckonWithout hi2 hl2 σ m _ im hR2 _ (fun hi3 hl3 hfr3 hR3 hW3 => ?_)
        refine V.qV (pc := 32) rfl rfl ?_
        refine V.iconst (pc := 35) (z := 0) dX7_taught_35 rfl ⟨by decide, by decide⟩ ?_
        refine V.istore_n (pc := 36) (i := 2) dX7_taught_36 rfl (by decide) (ls' := [(2, vI 0), (0, vR 0), (1, vI k)]) rfl ?_
        refine V.iconst (pc := 37) (z := 0) dX7_taught_37 rfl ⟨by decide, by decide⟩ ?_
        refine V.istore_n (pc := 38) (i := 3) dX7_taught_38 rfl (by decide) (ls' := [(3, vI 0), (2, vI 0), (0, vR 0), (1, vI k)]) rfl ?_
        have lp39 : ∀ (fu39 : Nat) (b : Nat), (b ≤ 6) → 6 - b < fu39 → V eX7_taught none KW 39 [(0, vR 0), (1, vI k), (2, vI ((tgF σ k b : Nat) : Int)), (3, vI ((b : Nat) : Int))] [] hi3 hl3 0 0 Q := by
          intro fu39
          induction fu39 with
          | zero => intro b hb6 hm39; exact absurd hm39 (Nat.not_lt_zero _)
          | succ fu39 ih39 =>
            intro b hb6 hm39
            have htl := tgF_lt σ k b
            have hp6 : 2 ^ b ≤ 2 ^ 6 := Nat.pow_le_pow_right (by decide) hb6
            have h64 : 2 ^ 6 = 64 := rfl
            refine V.iload_n (pc := 39) 3 dX7_taught_39 rfl ?_
            refine V.bipush (pc := 40) (z := 6) dX7_taught_40 (by decide +kernel) ⟨by decide, by decide⟩ ?_
            refine V.icmp_ge (pc := 42) 67 dX7_taught_42 (by decide) (fun h42 => ?_) (fun h42 => ?_)
            · skip
              refine V.iload_n (pc := 67) 2 dX7_taught_67 rfl ?_
              refine V.iret (pc := 68) (z := ((tgF σ k b : Nat) : Int)) dX7_taught_68 rfl ?_
              have e6 : b = 6 := by omega
              subst e6
              have hA : aTau (σ, m, hi 5, im) k = (tgF σ k 6 : Nat) := by
                unfold aTau
                try dsimp only [gσ, gm, gg, gi]
                refine (if_neg (by first | omega | assumption)).trans ?_
                refine (if_neg (by first | omega | assumption)).trans ?_
                rfl
              rw [hA] at hq
              exact hq _ _ (by repeat (first | exact fr0 | exact fr_t hfr2 hfr3 | refine fr1 (by decide) ?_ | refine fr2 (by decide) ?_ | refine fr3 (by decide) ?_ | refine fr4 (by decide) ?_)) hR3
            · skip
              refine V.aload_n (pc := 45) 0 dX7_taught_45 rfl ?_
              refine V.gr (pc := 46) 7 9 72 flX7_62 dX7_taught_46 (kS_0) (by decide) (by decide) rfl (kR_0_9) ?_
              refine V.iload_n (pc := 49) 3 dX7_taught_49 rfl ?_
              refine V.ia (pc := 50) (len := 6) b (fwF σ b) dX7_taught_50 (kS_72) (rfl) (by omega) (hW3 b (by omega)) ?_
              refine V.iload_n (pc := 51) 1 dX7_taught_51 rfl ?_
              refine V.icmp_gt (pc := 52) 61 dX7_taught_52 (by decide) (fun h52 => ?_) (fun h52 => ?_)
              · skip
                refine V.iinc (pc := 61) (r := ((b + 1 : Nat) : Int)) 3 dX7_taught_61 rfl (w32_of (by omega) (by omega) (by omega)) (by decide) (ls' := [(3, vI ((b + 1 : Nat) : Int)), (0, vR 0), (1, vI k), (2, vI ((tgF σ k b : Nat) : Int))]) rfl ?_
                refine V.goto (pc := 64) 39 dX7_taught_64 (by decide) ?_
                refine V.locs [1, 2, 3, 0] (ls' := [(0, vR 0), (1, vI k), (2, vI ((tgF σ k b : Nat) : Int)), (3, vI ((b + 1 : Nat) : Int))]) rfl ?_
                have e : tgF σ k (b + 1) = tgF σ k b := by rw [tgF_s, if_neg (by omega)]
                rw [← e]
                exact ih39 (b + 1) (by omega) (by omega)
              · skip
                refine V.iload_n (pc := 55) 2 dX7_taught_55 rfl ?_
                refine V.iconst (pc := 56) (z := 1) dX7_taught_56 rfl ⟨by decide, by decide⟩ ?_
                refine V.iload_n (pc := 57) 3 dX7_taught_57 rfl ?_
                refine V.ishl (pc := 58) (((1 * 2 ^ b : Nat) : Int)) dX7_taught_58 (sN (a := 1) (by omega) (by omega)) (rI_n (by omega)) ?_
                have hor := bw_or htl
                have hp7 : 2 ^ (b + 1) ≤ 2 ^ 6 := Nat.pow_le_pow_right (by decide) (by omega)
                refine V.ior (pc := 59) ((((tgF σ k b) ||| (1 * 2 ^ b) : Nat) : Int)) dX7_taught_59 (oN (tgF σ k b) (1 * 2 ^ b)) (rI_n (by omega)) ?_
                refine V.istore_n (pc := 60) (i := 2) dX7_taught_60 rfl (by decide) (ls' := [(2, vI (((tgF σ k b) ||| (1 * 2 ^ b) : Nat) : Int)), (0, vR 0), (1, vI k), (3, vI ((b : Nat) : Int))]) rfl ?_
                refine V.iinc (pc := 61) (r := ((b + 1 : Nat) : Int)) 3 dX7_taught_61 rfl (w32_of (by omega) (by omega) (by omega)) (by decide) (ls' := [(3, vI ((b + 1 : Nat) : Int)), (2, vI (((tgF σ k b) ||| (1 * 2 ^ b) : Nat) : Int)), (0, vR 0), (1, vI k)]) rfl ?_
                refine V.goto (pc := 64) 39 dX7_taught_64 (by decide) ?_
                refine V.locs [2, 3, 1, 0] (ls' := [(0, vR 0), (1, vI k), (2, vI (((tgF σ k b) ||| (1 * 2 ^ b) : Nat) : Int)), (3, vI ((b + 1 : Nat) : Int))]) rfl ?_
                have e : tgF σ k (b + 1) = tgF σ k b ||| 1 * 2 ^ b := by rw [tgF_s, if_pos (by omega)]
                rw [← e]
                exact ih39 (b + 1) (by omega) (by omega)
        refine V.locs [2, 3, 1, 0] (ls' := [(0, vR 0), (1, vI k), (2, vI 0), (3, vI 0)]) rfl ?_
        exact lp39 _ 0 (by omega) (Nat.lt_succ_self _)
      · skip
        refine V.bipush (pc := 28) (z := (-3)) dX7_taught_28 (by decide +kernel) ⟨by decide, by decide⟩ ?_
        refine V.iret (pc := 30) (z := (-3)) dX7_taught_30 rfl ?_
        have hA : aTau (σ, m, hi 5, im) k = -3 := by
          unfold aTau
          try dsimp only [gσ, gm, gg, gi]
          refine (if_neg (by first | omega | assumption)).trans ?_
          refine (if_pos (by first | omega | assumption)).trans ?_
          rfl
        rw [hA] at hq
        exact hq _ _ (by repeat (first | exact fr0 | exact hfr2 | refine fr1 (by decide) ?_ | refine fr2 (by decide) ?_ | refine fr3 (by decide) ?_ | refine fr4 (by decide) ?_)) hR2
    · skip
      refine V.bipush (pc := 10) (z := (-2)) dX7_taught_10 (by decide +kernel) ⟨by decide, by decide⟩ ?_
      refine V.iret (pc := 12) (z := (-2)) dX7_taught_12 rfl ?_
      have hA : aTau (σ, m, hi 5, im) k = -2 := by
        unfold aTau
        try dsimp only [gσ, gm, gg, gi]
        refine (if_pos (by first | omega | assumption)).trans ?_
        rfl
      rw [hA] at hq
      exact hq _ _ (by repeat (first | exact fr0 | refine fr1 (by decide) ?_ | refine fr2 (by decide) ?_ | refine fr3 (by decide) ?_ | refine fr4 (by decide) ?_)) hR

set_option maxRecDepth 100000 in
theorem c_X7_few (hi hl : HI) (σ : SG) (m : Nat) (g : Nat → Int) (im : Nat → Option SG) (hR : RC hi hl (σ, m, g, im)) (n : Int) (Q : QT) (hq : ∀ hi' hl' : HI, FrC hi hl hi' hl' → RC hi' hl' (σ, m, g, im) → Q (some (vI (aFew (σ, m, g, im) n))) KW hi' hl') : Con eX7_few [vR 0, vI n] KW hi hl Q := by
  refine Con.ofV (by decide +kernel) (Nat.le_of_ble_eq_true rfl) ?_
  show V eX7_few none KW 0 [(0, vR 0), (1, vI n)] [] hi hl 0 0 Q
  obtain ⟨hT, hC, ⟨hm, hm2, hg5, hgr⟩, ⟨k0, k1, k2, k3⟩, hfr, hwo⟩ := RC_o hR
  subst hg5
  have hwf := hC.1
  have hn16 := hwf.2.2.1
  have hbg := hwf.2.2.2.2.1
  refine V.iload_n (pc := 0) 1 dX7_few_0 rfl ?_
  refine V.iconst (pc := 1) (z := 1) dX7_few_1 rfl ⟨by decide, by decide⟩ ?_
  refine V.icmp_lt (pc := 2) 10 dX7_few_2 (by decide) (fun h2 => ?_) (fun h2 => ?_)
  · skip
    refine V.bipush (pc := 10) (z := (-2)) dX7_few_10 (by decide +kernel) ⟨by decide, by decide⟩ ?_
    refine V.iret (pc := 12) (z := (-2)) dX7_few_12 rfl ?_
    have hA : aFew (σ, m, hi 5, im) n = -2 := by
      unfold aFew
      try dsimp only [gσ, gm, gg, gi]
      refine (if_pos (by first | omega | assumption)).trans ?_
      rfl
    rw [hA] at hq
    exact hq _ _ (by repeat (first | exact fr0 | refine fr1 (by decide) ?_ | refine fr2 (by decide) ?_ | refine fr3 (by decide) ?_ | refine fr4 (by decide) ?_)) hR
  · skip
    refine V.iload_n (pc := 5) 1 dX7_few_5 rfl ?_
    refine V.iconst (pc := 6) (z := 3) dX7_few_6 rfl ⟨by decide, by decide⟩ ?_
    refine V.icmp_le (pc := 7) 13 dX7_few_7 (by decide) (fun h7 => ?_) (fun h7 => ?_)
    · skip
      refine V.aload_n (pc := 13) 0 dX7_few_13 rfl ?_
      refine V.callV (pc := 14) (e1 := eX7_prepareTelling) (o := 0) (c := 7) 0 [] [] mfX7_prepareTelling slX7_prepareTelling mlX7_197 dX7_few_14 (kS_0) (by decide) rfl rfl rfl (Nat.le_of_ble_eq_true rfl) ⟨by decide, by decide, by decide, by decide⟩ ?_
      refine c_X7_prepareTelling hi hl σ m _ im hR _ (fun hi4 hl4 hfr4 hR4 hTR => ?_)
      refine V.qV (pc := 14) rfl rfl ?_
      refine V.aload_n (pc := 17) 0 dX7_few_17 rfl ?_
      refine V.gr (pc := 18) 7 10 73 flX7_69 dX7_few_18 (kS_0) (by decide) (by decide) rfl (kR_0_10) ?_
      refine V.callV (pc := 21) (e1 := eX5_fewestBirds) (o := 73) (c := 5) 0 [] [] mfX5_fewestBirds slX5_fewestBirds mlX7_200 dX7_few_21 (kS_73) (by decide) rfl rfl rfl (Nat.le_of_ble_eq_true rfl) ⟨by decide, by decide, by decide, by decide⟩ ?_
      refine c_X5_fewestBirds hi4 hl4 _ _ _ _ hTR _ ?_
      refine V.qI (pc := 21) rfl rfl ?_
      refine V.iret (pc := 24) (z := (fbF (tlsF σ) 63)) dX7_few_24 rfl ?_
      have hA : aFew (σ, m, hi 5, im) n = fbF (tlsF σ) 63 := by
        unfold aFew
        try dsimp only [gσ, gm, gg, gi]
        refine (if_neg (by first | omega | assumption)).trans ?_
        rfl
      rw [hA] at hq
      exact hq _ _ (by repeat (first | exact fr0 | exact hfr4 | refine fr1 (by decide) ?_ | refine fr2 (by decide) ?_ | refine fr3 (by decide) ?_ | refine fr4 (by decide) ?_)) hR4
    · skip
      refine V.bipush (pc := 10) (z := (-2)) dX7_few_10 (by decide +kernel) ⟨by decide, by decide⟩ ?_
      refine V.iret (pc := 12) (z := (-2)) dX7_few_12 rfl ?_
      have hA : aFew (σ, m, hi 5, im) n = -2 := by
        unfold aFew
        try dsimp only [gσ, gm, gg, gi]
        refine (if_pos (by first | omega | assumption)).trans ?_
        rfl
      rw [hA] at hq
      exact hq _ _ (by repeat (first | exact fr0 | refine fr1 (by decide) ?_ | refine fr2 (by decide) ?_ | refine fr3 (by decide) ?_ | refine fr4 (by decide) ?_)) hR

set_option maxRecDepth 100000 in
theorem c_X7_doubt (hi hl : HI) (σ : SG) (m : Nat) (g : Nat → Int) (im : Nat → Option SG) (hR : RC hi hl (σ, m, g, im)) (n : Int) (b : Int) (Q : QT) (hq : ∀ hi' hl' : HI, FrC hi hl hi' hl' → RC hi' hl' (σ, m, g, im) → Q (some (vI (aDoubt (σ, m, g, im) n b))) KW hi' hl') : Con eX7_doubt [vR 0, vI n, vI b] KW hi hl Q := by
  refine Con.ofV (by decide +kernel) (Nat.le_of_ble_eq_true rfl) ?_
  show V eX7_doubt none KW 0 [(0, vR 0), (1, vI n), (2, vI b)] [] hi hl 0 0 Q
  obtain ⟨hT, hC, ⟨hm, hm2, hg5, hgr⟩, ⟨k0, k1, k2, k3⟩, hfr, hwo⟩ := RC_o hR
  subst hg5
  have hwf := hC.1
  have hn16 := hwf.2.2.1
  have hbg := hwf.2.2.2.2.1
  refine V.iload_n (pc := 0) 1 dX7_doubt_0 rfl ?_
  refine V.iconst (pc := 1) (z := 1) dX7_doubt_1 rfl ⟨by decide, by decide⟩ ?_
  refine V.icmp_lt (pc := 2) 20 dX7_doubt_2 (by decide) (fun h2 => ?_) (fun h2 => ?_)
  · skip
    refine V.bipush (pc := 20) (z := (-2)) dX7_doubt_20 (by decide +kernel) ⟨by decide, by decide⟩ ?_
    refine V.iret (pc := 22) (z := (-2)) dX7_doubt_22 rfl ?_
    have hA : aDoubt (σ, m, hi 5, im) n b = -2 := by
      unfold aDoubt
      try dsimp only [gσ, gm, gg, gi]
      refine (if_pos (by first | omega | assumption)).trans ?_
      rfl
    rw [hA] at hq
    exact hq _ _ (by repeat (first | exact fr0 | refine fr1 (by decide) ?_ | refine fr2 (by decide) ?_ | refine fr3 (by decide) ?_ | refine fr4 (by decide) ?_)) hR
  · skip
    refine V.iload_n (pc := 5) 1 dX7_doubt_5 rfl ?_
    refine V.iconst (pc := 6) (z := 3) dX7_doubt_6 rfl ⟨by decide, by decide⟩ ?_
    refine V.icmp_gt (pc := 7) 20 dX7_doubt_7 (by decide) (fun h7 => ?_) (fun h7 => ?_)
    · skip
      refine V.bipush (pc := 20) (z := (-2)) dX7_doubt_20 (by decide +kernel) ⟨by decide, by decide⟩ ?_
      refine V.iret (pc := 22) (z := (-2)) dX7_doubt_22 rfl ?_
      have hA : aDoubt (σ, m, hi 5, im) n b = -2 := by
        unfold aDoubt
        try dsimp only [gσ, gm, gg, gi]
        refine (if_pos (by first | omega | assumption)).trans ?_
        rfl
      rw [hA] at hq
      exact hq _ _ (by repeat (first | exact fr0 | refine fr1 (by decide) ?_ | refine fr2 (by decide) ?_ | refine fr3 (by decide) ?_ | refine fr4 (by decide) ?_)) hR
    · skip
      refine V.iload_n (pc := 10) 2 dX7_doubt_10 rfl ?_
      refine V.if_lt (pc := 11) 20 dX7_doubt_11 (by decide) (fun h11 => ?_) (fun h11 => ?_)
      · skip
        refine V.bipush (pc := 20) (z := (-2)) dX7_doubt_20 (by decide +kernel) ⟨by decide, by decide⟩ ?_
        refine V.iret (pc := 22) (z := (-2)) dX7_doubt_22 rfl ?_
        have hA : aDoubt (σ, m, hi 5, im) n b = -2 := by
          unfold aDoubt
          try dsimp only [gσ, gm, gg, gi]
          refine (if_pos (by first | omega | assumption)).trans ?_
          rfl
        rw [hA] at hq
        exact hq _ _ (by repeat (first | exact fr0 | refine fr1 (by decide) ?_ | refine fr2 (by decide) ?_ | refine fr3 (by decide) ?_ | refine fr4 (by decide) ?_)) hR
      · skip
        refine V.iload_n (pc := 14) 2 dX7_doubt_14 rfl ?_
        refine V.bipush (pc := 15) (z := 63) dX7_doubt_15 (by decide +kernel) ⟨by decide, by decide⟩ ?_
        refine V.icmp_le (pc := 17) 23 dX7_doubt_17 (by decide) (fun h17 => ?_) (fun h17 => ?_)
        · skip
          obtain ⟨c, rfl⟩ : ∃ c : Nat, b = (c : Int) := ⟨b.toNat, by omega⟩
          obtain ⟨j, rfl⟩ : ∃ j : Nat, n = (j : Int) := ⟨n.toNat, by omega⟩
          refine V.aload_n (pc := 23) 0 dX7_doubt_23 rfl ?_
          refine V.callV (pc := 24) (e1 := eX7_prepareTelling) (o := 0) (c := 7) 0 [] [] mfX7_prepareTelling slX7_prepareTelling mlX7_197 dX7_doubt_24 (kS_0) (by decide) rfl rfl rfl (Nat.le_of_ble_eq_true rfl) ⟨by decide, by decide, by decide, by decide⟩ ?_
          refine c_X7_prepareTelling hi hl σ m _ im hR _ (fun hi4 hl4 hfr4 hR4 hTR => ?_)
          refine V.qV (pc := 24) rfl rfl ?_
          refine V.aload_n (pc := 27) 0 dX7_doubt_27 rfl ?_
          refine V.gr (pc := 28) 7 10 73 flX7_69 dX7_doubt_28 (kS_0) (by decide) (by decide) rfl (kR_0_10) ?_
          refine V.iload_n (pc := 31) 2 dX7_doubt_31 rfl ?_
          refine V.callV (pc := 32) (e1 := eX5_tells) (o := 73) (c := 5) 1 [vI ((c : Nat) : Int)] [] mfX5_tells slX5_tells mlX7_203 dX7_doubt_32 (kS_73) (by decide) rfl rfl rfl (Nat.le_of_ble_eq_true rfl) ⟨by decide, by decide, by decide, by decide⟩ ?_
          refine c_X5_tells hi4 hl4 _ _ _ _ hTR c (by omega) _ ?_
          refine V.qI (pc := 32) rfl rfl ?_
          refine V.if_eq (pc := 35) 42 dX7_doubt_35 (by decide) (fun h35 => ?_) (fun h35 => ?_)
          · have htl : tlsF σ c = false := b2i_F h35
            refine V.iload_n (pc := 42) 1 dX7_doubt_42 rfl ?_
            refine V.callS (pc := 43) (e1 := eX7_power) 1 [vI ((j : Nat) : Int)] [] mfX7_power slX7_power mlX7_206 dX7_doubt_43 rfl rfl (Nat.le_of_ble_eq_true rfl) ⟨by decide, by decide, by decide, by decide⟩ ?_
            refine c_X7_power KW hi4 hl4 j (by omega) _ ?_
            refine V.qI (pc := 43) rfl rfl ?_
            refine V.iret (pc := 46) (z := ((p3 j : Nat) : Int)) dX7_doubt_46 rfl ?_
            have hA : aDoubt (σ, m, hi 5, im) (j : Int) (c : Int) = (p3 j : Nat) := by
              unfold aDoubt
              try dsimp only [gσ, gm, gg, gi]
              refine (if_neg (by first | omega | assumption)).trans ?_
              refine (if_neg (show ¬ tlsF σ c = true by rw [htl]; decide)).trans ?_
              rfl
            rw [hA] at hq
            exact hq _ _ (by repeat (first | exact fr0 | exact hfr4 | refine fr1 (by decide) ?_ | refine fr2 (by decide) ?_ | refine fr3 (by decide) ?_ | refine fr4 (by decide) ?_)) hR4
          · have htl : tlsF σ c = true := b2i_T h35
            refine V.iconst (pc := 38) (z := 0) dX7_doubt_38 rfl ⟨by decide, by decide⟩ ?_
            refine V.goto (pc := 39) 46 dX7_doubt_39 (by decide) ?_
            refine V.iret (pc := 46) (z := 0) dX7_doubt_46 rfl ?_
            have hA : aDoubt (σ, m, hi 5, im) (j : Int) (c : Int) = 0 := by
              unfold aDoubt
              try dsimp only [gσ, gm, gg, gi]
              refine (if_neg (by first | omega | assumption)).trans ?_
              refine (if_pos (by first | omega | assumption)).trans ?_
              rfl
            rw [hA] at hq
            exact hq _ _ (by repeat (first | exact fr0 | exact hfr4 | refine fr1 (by decide) ?_ | refine fr2 (by decide) ?_ | refine fr3 (by decide) ?_ | refine fr4 (by decide) ?_)) hR4
        · skip
          refine V.bipush (pc := 20) (z := (-2)) dX7_doubt_20 (by decide +kernel) ⟨by decide, by decide⟩ ?_
          refine V.iret (pc := 22) (z := (-2)) dX7_doubt_22 rfl ?_
          have hA : aDoubt (σ, m, hi 5, im) n b = -2 := by
            unfold aDoubt
            try dsimp only [gσ, gm, gg, gi]
            refine (if_pos (by first | omega | assumption)).trans ?_
            rfl
          rw [hA] at hq
          exact hq _ _ (by repeat (first | exact fr0 | refine fr1 (by decide) ?_ | refine fr2 (by decide) ?_ | refine fr3 (by decide) ?_ | refine fr4 (by decide) ?_)) hR

set_option maxRecDepth 100000 in
theorem c_X7_rare (hi hl : HI) (σ : SG) (m : Nat) (g : Nat → Int) (im : Nat → Option SG) (hR : RC hi hl (σ, m, g, im)) (v : Int) (Q : QT) (hq : ∀ hi' hl' : HI, FrC hi hl hi' hl' → RC hi' hl' (nRare (σ, m, g, im) v) → Q (some (vI (aRare (σ, m, g, im) v))) KW hi' hl') : Con eX7_rare [vR 0, vI v] KW hi hl Q := by
  refine Con.ofV (by decide +kernel) (Nat.le_of_ble_eq_true rfl) ?_
  show V eX7_rare none KW 0 [(0, vR 0), (1, vI v)] [] hi hl 0 0 Q
  refine V.hieq (hi' := (upR hi 10 (hi 10))) (by rw [upR_id]) ?_
  obtain ⟨hT, hC, ⟨hm, hm2, hg5, hgr⟩, ⟨k0, k1, k2, k3⟩, hfr, hwo⟩ := RC_o hR
  subst hg5
  have hwf := hC.1
  have hn16 := hwf.2.2.1
  have hbg := hwf.2.2.2.2.1
  refine V.iload_n (pc := 0) 1 dX7_rare_0 rfl ?_
  refine V.iconst (pc := 1) (z := 1) dX7_rare_1 rfl ⟨by decide, by decide⟩ ?_
  refine V.icmp_lt (pc := 2) 11 dX7_rare_2 (by decide) (fun h2 => ?_) (fun h2 => ?_)
  · skip
    refine V.bipush (pc := 11) (z := (-2)) dX7_rare_11 (by decide +kernel) ⟨by decide, by decide⟩ ?_
    refine V.iret (pc := 13) (z := (-2)) dX7_rare_13 rfl ?_
    have hA : aRare (σ, m, hi 5, im) v = -2 := by
      unfold aRare
      try dsimp only [gσ, gm, gg, gi]
      refine (if_pos (by first | omega | assumption)).trans ?_
      rfl
    rw [hA] at hq
    have hN : nRare (σ, m, hi 5, im) v = (σ, m, hi 5, im) := by
      unfold nRare
      try dsimp only [gσ, gm, gg, gi]
      refine (if_pos (by first | omega | assumption)).trans ?_
      rfl
    rw [hN] at hq
    rw [upR_id]
    exact hq _ _ (by repeat (first | exact fr0 | refine fr1 (by decide) ?_ | refine fr2 (by decide) ?_ | refine fr3 (by decide) ?_ | refine fr4 (by decide) ?_)) hR
  · skip
    refine V.iload_n (pc := 5) 1 dX7_rare_5 rfl ?_
    refine V.bipush (pc := 6) (z := 99) dX7_rare_6 (by decide +kernel) ⟨by decide, by decide⟩ ?_
    refine V.icmp_le (pc := 8) 14 dX7_rare_8 (by decide) (fun h8 => ?_) (fun h8 => ?_)
    · skip
      obtain ⟨w, rfl⟩ : ∃ w : Nat, v = (w : Int) := ⟨v.toNat, by omega⟩
      refine V.aload_n (pc := 14) 0 dX7_rare_14 rfl ?_
      refine V.gr (pc := 15) 7 3 10 flX7_33 dX7_rare_15 (kS_0) (by decide) (by decide) rfl (kR_0_3) ?_
      refine V.gi (pc := 18) 0 4 ((ra σ : Nat) : Int) flX7_209 dX7_rare_18 (kS_10) (by decide) (by decide) rfl (hC.2.2.2.2.2.2) ?_
      refine V.istore_n (pc := 21) (i := 2) dX7_rare_21 rfl (by decide) (ls' := [(2, vI ((ra σ : Nat) : Int)), (0, vR 0), (1, vI ((w : Nat) : Int))]) rfl ?_
      refine V.aload_n (pc := 22) 1 dX7_rare_22 rfl ?_
      refine V.gr (pc := 23) 7 3 10 flX7_33 dX7_rare_23 (kS_0) (by decide) (by decide) rfl (kR_0_3) ?_
      refine V.iload_n (pc := 26) 2 dX7_rare_26 rfl ?_
      refine V.pi (pc := 27) (hi' := (upR hi 10 (updF (hi 10) 4 ((w : Nat) : Int)))) 0 4 flX7_209 dX7_rare_27 (kS_10) (by decide) (by decide) rfl rfl u1 ?_
      refine V.iload_n (pc := 30) 0 dX7_rare_30 rfl ?_
      refine V.iret (pc := 31) (z := ((ra σ : Nat) : Int)) dX7_rare_31 rfl ?_
      have hA : aRare (σ, m, hi 5, im) (w : Int) = (ra σ : Nat) := by
        unfold aRare
        try dsimp only [gσ, gm, gg, gi]
        refine (if_neg (by first | omega | assumption)).trans ?_
        rfl
      rw [hA] at hq
      have hN : nRare (σ, m, hi 5, im) (w : Int) = (setRa σ w, m, hi 5, im) := by
        unfold nRare
        try dsimp only [gσ, gm, gg, gi]
        refine (if_neg (by first | omega | assumption)).trans ?_
        rfl
      rw [hN] at hq
      exact hq _ _ (by repeat (first | exact fr0 | refine fr1 (by decide) ?_ | refine fr2 (by decide) ?_ | refine fr3 (by decide) ?_ | refine fr4 (by decide) ?_)) (RC_i (hT) (CR_ra hC (by omega)) (hm) (hm2) (rfl) (hgr) (k0) (k1) (k2) (k3) (fr_same (σ := σ) rfl rfl rfl rfl rfl hfr) (wo_same (σ := σ) rfl rfl rfl rfl rfl hwo))
    · skip
      refine V.bipush (pc := 11) (z := (-2)) dX7_rare_11 (by decide +kernel) ⟨by decide, by decide⟩ ?_
      refine V.iret (pc := 13) (z := (-2)) dX7_rare_13 rfl ?_
      have hA : aRare (σ, m, hi 5, im) v = -2 := by
        unfold aRare
        try dsimp only [gσ, gm, gg, gi]
        refine (if_pos (by first | omega | assumption)).trans ?_
        rfl
      rw [hA] at hq
      have hN : nRare (σ, m, hi 5, im) v = (σ, m, hi 5, im) := by
        unfold nRare
        try dsimp only [gσ, gm, gg, gi]
        refine (if_pos (by first | omega | assumption)).trans ?_
        rfl
      rw [hN] at hq
      rw [upR_id]
      exact hq _ _ (by repeat (first | exact fr0 | refine fr1 (by decide) ?_ | refine fr2 (by decide) ?_ | refine fr3 (by decide) ?_ | refine fr4 (by decide) ?_)) hR

set_option maxRecDepth 100000 in
theorem c_X7_years (hi hl : HI) (σ : SG) (m : Nat) (g : Nat → Int) (im : Nat → Option SG) (hR : RC hi hl (σ, m, g, im)) (a : Int) (n : Int) (b : Int) (i : Int) (Q : QT) (hq : ∀ hi' hl' : HI, FrC hi hl hi' hl' → RC hi' hl' (σ, m, g, im) → Q (some (vI (aYears (σ, m, g, im) a n b i))) KW hi' hl') : Con eX7_years [vR 0, vI a, vI n, vI b, vI i] KW hi hl Q := by
  refine Con.ofV (by decide +kernel) (Nat.le_of_ble_eq_true rfl) ?_
  show V eX7_years none KW 0 [(0, vR 0), (1, vI a), (2, vI n), (3, vI b), (4, vI i)] [] hi hl 0 0 Q
  refine V.hieq (hi' := (upR (upR (upR hi 35 (hi 35)) 33 (hi 33)) 34 (hi 34))) (by rw [upR_id, upR_id, upR_id]) ?_
  obtain ⟨hT, hC, ⟨hm, hm2, hg5, hgr⟩, ⟨k0, k1, k2, k3⟩, hfr, hwo⟩ := RC_o hR
  subst hg5
  have hwf := hC.1
  have hn16 := hwf.2.2.1
  have hbg := hwf.2.2.2.2.1
  refine V.iload_n (pc := 0) 3 dX7_years_0 rfl ?_
  refine V.callS (pc := 1) (e1 := eX7_isBird) 1 [vI b] [] mfX7_isBird slX7_isBird mlX7_80 dX7_years_1 rfl rfl (Nat.le_of_ble_eq_true rfl) ⟨by decide, by decide, by decide, by decide⟩ ?_
  refine c_X7_isBird KW (upR (upR (upR hi 35 (hi 35)) 33 (hi 33)) 34 (hi 34)) hl b _ (fun hb => ?_) (fun hb => ?_)
  · skip
    refine V.qI (pc := 1) rfl rfl ?_
    refine V.if_ne (pc := 4) 9 dX7_years_4 (by decide) (fun h4 => ?_) (fun hc => by exact absurd hc (by decide))
    refine V.iload_n (pc := 9) 1 dX7_years_9 rfl ?_
    refine V.iload_n (pc := 10) 2 dX7_years_10 rfl ?_
    refine V.callS (pc := 11) (e1 := eX7_areYears) 2 [vI a, vI n] [] mfX7_areYears slX7_areYears mlX7_212 dX7_years_11 rfl rfl (Nat.le_of_ble_eq_true rfl) ⟨by decide, by decide, by decide, by decide⟩ ?_
    refine c_X7_areYears KW (upR (upR (upR hi 35 (hi 35)) 33 (hi 33)) 34 (hi 34)) hl a n _ (fun hy => ?_) (fun hy => ?_)
    · skip
      refine V.qI (pc := 11) rfl rfl ?_
      refine V.if_ne (pc := 14) 20 dX7_years_14 (by decide) (fun h14 => ?_) (fun hc => by exact absurd hc (by decide))
      obtain ⟨x, rfl⟩ : ∃ x : Nat, a = (x : Int) := ⟨a.toNat, by omega⟩
      obtain ⟨n0, rfl⟩ : ∃ n0 : Nat, n = (n0 : Int) := ⟨n.toNat, by omega⟩
      obtain ⟨b0, rfl⟩ : ∃ b0 : Nat, b = (b0 : Int) := ⟨b.toNat, by omega⟩
      refine V.aload_n (pc := 20) 0 dX7_years_20 rfl ?_
      refine V.gr (pc := 21) 7 6 33 flX7_48 dX7_years_21 (kS_0) (by decide) (by decide) rfl (kR_0_6) ?_
      refine V.aload_n (pc := 24) 0 dX7_years_24 rfl ?_
      refine V.gr (pc := 25) 7 3 10 flX7_33 dX7_years_25 (kS_0) (by decide) (by decide) rfl (kR_0_3) ?_
      refine V.iload_n (pc := 28) 1 dX7_years_28 rfl ?_
      refine V.callV (pc := 29) (e1 := eX6_beginYears) (o := 33) (c := 6) 2 [vR 10, vI ((x : Nat) : Int)] [] mfX6_beginYears slX6_beginYears mlX7_216 dX7_years_29 (kS_33) (by decide) rfl rfl rfl (Nat.le_of_ble_eq_true rfl) ⟨by decide, by decide, by decide, by decide⟩ ?_
      refine c_X6_beginYears (upR (upR (upR hi 35 (hi 35)) 33 (hi 33)) 34 (hi 34)) hl x _ (fun g33 g34 hY1 hY2 => ?_)
      refine V.qV (pc := 29) rfl rfl ?_
      refine V.hieq (hi' := (upR (upR (upR hi 35 (hi 35)) 33 g33) 34 g34)) ((upR_c (rs (by decide) r1)).trans r1) ?_
      refine V.iconst (pc := 32) (z := 1) dX7_years_32 rfl ⟨by decide, by decide⟩ ?_
      refine V.istore (pc := 33) (i := 5) dX7_years_33 (by decide) (ls' := [(5, vI 1), (0, vR 0), (1, vI ((x : Nat) : Int)), (2, vI ((n0 : Nat) : Int)), (3, vI ((b0 : Nat) : Int)), (4, vI i)]) rfl ?_
      have lp35 : ∀ (fu35 : Nat) (d : Nat) (g33 : Nat → Int) (g34 : Nat → Int) (g35 : Nat → Int), (d ≤ n0) → (g33 3 = ((yrun σ x d).2 : Nat)) → (∀ b, b < 6 → g34 b = encC ((yrun σ x d).1.1 b)) → n0 - d < fu35 → V eX7_years none KW 35 [(0, vR 0), (1, vI ((x : Nat) : Int)), (2, vI ((n0 : Nat) : Int)), (3, vI ((b0 : Nat) : Int)), (4, vI i), (5, vI ((d + 1 : Nat) : Int))] [] (upR (upR (upR hi 35 g35) 33 g33) 34 g34) hl 0 0 Q := by
        intro fu35
        induction fu35 with
        | zero => intro d g33 g34 g35 hd h33 h34 hm35; exact absurd hm35 (Nat.not_lt_zero _)
        | succ fu35 ih35 =>
          intro d g33 g34 g35 hd h33 h34 hm35
          refine V.iload (pc := 35) 5 dX7_years_35 rfl ?_
          refine V.iload_n (pc := 37) 2 dX7_years_37 rfl ?_
          refine V.icmp_gt (pc := 38) 73 dX7_years_38 (by decide) (fun h38 => ?_) (fun h38 => ?_)
          · skip
            have e0 : d = n0 := by omega
            subst e0
            refine V.aload_n (pc := 73) 0 dX7_years_73 rfl ?_
            refine V.gr (pc := 74) 7 6 33 flX7_48 dX7_years_74 (kS_0) (by decide) (by decide) rfl (kR_0_6) ?_
            refine V.gr (pc := 77) 6 0 34 flX7_149 dX7_years_77 (kS_33) (by decide) (by decide) rfl (kR_33_0) ?_
            refine V.iload_n (pc := 80) 3 dX7_years_80 rfl ?_
            refine V.ia (pc := 81) (len := 6) b0 (encC ((yrun σ x d).1.1 b0)) dX7_years_81 (kS_34) (rfl) (by omega) (h34 b0 (by omega)) ?_
            refine V.iload (pc := 82) 4 dX7_years_82 rfl ?_
            refine V.callS (pc := 84) (e1 := eX7_wordOf) 2 [vI (encC ((yrun σ x d).1.1 b0)), vI i] [] mfX7_wordOf slX7_wordOf mlX7_152 dX7_years_84 rfl rfl (Nat.le_of_ble_eq_true rfl) ⟨by decide, by decide, by decide, by decide⟩ ?_
            refine c_X7_wordOf KW (upR (upR (upR hi 35 g35) 33 g33) 34 g34) hl (encC ((yrun σ x d).1.1 b0)) i (encC_b (okW_yrun hwf d) b0) _ ?_
            refine V.qI (pc := 84) rfl rfl ?_
            refine V.iret (pc := 87) (z := (wordO (encC ((yrun σ x d).1.1 b0)) i)) dX7_years_87 rfl ?_
            have hA : aYears (σ, m, hi 5, im) (x : Int) (d : Int) (b0 : Int) i = wordO (encC ((yrun σ x d).1.1 b0)) i := by
              unfold aYears
              try dsimp only [gσ, gm, gg, gi]
              refine (if_neg (by first | omega | assumption)).trans ?_
              refine (if_neg (by first | omega | assumption)).trans ?_
              rfl
            rw [hA] at hq
            exact hq _ _ (by repeat (first | exact fr0 | refine fr1 (by decide) ?_ | refine fr2 (by decide) ?_ | refine fr3 (by decide) ?_ | refine fr4 (by decide) ?_)) (RC_i (hT) (hC) (hm) (hm2) (rfl) (hgr) (k0) (k1) (k2) (k3) (hfr) (hwo))
          · skip
            refine V.aload_n (pc := 41) 0 dX7_years_41 rfl ?_
            refine V.gr (pc := 42) 7 6 33 flX7_48 dX7_years_42 (kS_0) (by decide) (by decide) rfl (kR_0_6) ?_
            refine V.aload_n (pc := 45) 0 dX7_years_45 rfl ?_
            refine V.gr (pc := 46) 7 3 10 flX7_33 dX7_years_46 (kS_0) (by decide) (by decide) rfl (kR_0_3) ?_
            refine V.aload_n (pc := 49) 0 dX7_years_49 rfl ?_
            refine V.gr (pc := 50) 7 0 1 flX7_10 dX7_years_50 (kS_0) (by decide) (by decide) rfl (kR_0_0) ?_
            refine V.iload (pc := 53) 5 dX7_years_53 rfl ?_
            refine V.iconst (pc := 55) (z := 1) dX7_years_55 rfl ⟨by decide, by decide⟩ ?_
            refine V.icmp_ne (pc := 56) 63 dX7_years_56 (by decide) (fun h56 => ?_) (fun h56 => ?_)
            · skip
              refine V.iconst (pc := 63) (z := 0) dX7_years_63 rfl ⟨by decide, by decide⟩ ?_
              refine V.top (v' := vI (b2i (d == 0))) (by have hd0 : (d == 0) = false := (beq_eq_false_iff_ne.mpr (by omega)); rw [hd0]; rfl) ?_
              refine V.callV (pc := 64) (e1 := eX6_throughDrawnDay) (o := 33) (c := 6) 3 [vR 10, vR 1, vI (b2i (d == 0))] [] mfX6_throughDrawnDay slX6_throughDrawnDay mlX7_220 dX7_years_64 (kS_33) (by decide) rfl rfl rfl (Nat.le_of_ble_eq_true rfl) ⟨by decide, by decide, by decide, by decide⟩ ?_
              refine c_X6_throughDrawnDay (upR (upR (upR hi 35 g35) 33 g33) 34 g34) hl hT σ hC (d == 0) (yrun σ x d) (okW_yrun hwf d) (yrun_lt (by omega) d) h33 h34 _ (fun g33 g34 g35 hT3 hT4 => ?_)
              refine V.qV (pc := 64) rfl rfl ?_
              refine V.hieq (hi' := (upR (upR (upR hi 35 g35) 33 g33) 34 g34)) ((upR_c ((upR_c (rs (by decide) r1)).trans r1)).trans (rs (by decide) (rs (by decide) r1))) ?_
              refine V.iinc (pc := 67) (r := ((d + 1 + 1 : Nat) : Int)) 5 dX7_years_67 rfl (w32_of (by omega) (by omega) (by omega)) (by decide) (ls' := [(5, vI ((d + 1 + 1 : Nat) : Int)), (0, vR 0), (1, vI ((x : Nat) : Int)), (2, vI ((n0 : Nat) : Int)), (3, vI ((b0 : Nat) : Int)), (4, vI i)]) rfl ?_
              refine V.goto (pc := 70) 35 dX7_years_70 (by decide) ?_
              refine V.locs [1, 2, 3, 4, 5, 0] (ls' := [(0, vR 0), (1, vI ((x : Nat) : Int)), (2, vI ((n0 : Nat) : Int)), (3, vI ((b0 : Nat) : Int)), (4, vI i), (5, vI ((d + 1 + 1 : Nat) : Int))]) rfl ?_
              exact ih35 (d + 1) g33 g34 g35 (by omega) (hT3) (hT4) (by omega)
            · skip
              refine V.iconst (pc := 59) (z := 1) dX7_years_59 rfl ⟨by decide, by decide⟩ ?_
              refine V.top (v' := vI (b2i (d == 0))) (by have hd0 : d = 0 := (by omega); subst hd0; rfl) ?_
              refine V.goto (pc := 60) 64 dX7_years_60 (by decide) ?_
              refine V.callV (pc := 64) (e1 := eX6_throughDrawnDay) (o := 33) (c := 6) 3 [vR 10, vR 1, vI (b2i (d == 0))] [] mfX6_throughDrawnDay slX6_throughDrawnDay mlX7_220 dX7_years_64 (kS_33) (by decide) rfl rfl rfl (Nat.le_of_ble_eq_true rfl) ⟨by decide, by decide, by decide, by decide⟩ ?_
              refine c_X6_throughDrawnDay (upR (upR (upR hi 35 g35) 33 g33) 34 g34) hl hT σ hC (d == 0) (yrun σ x d) (okW_yrun hwf d) (yrun_lt (by omega) d) h33 h34 _ (fun g33 g34 g35 hT3 hT4 => ?_)
              refine V.qV (pc := 64) rfl rfl ?_
              refine V.hieq (hi' := (upR (upR (upR hi 35 g35) 33 g33) 34 g34)) ((upR_c ((upR_c (rs (by decide) r1)).trans r1)).trans (rs (by decide) (rs (by decide) r1))) ?_
              refine V.iinc (pc := 67) (r := ((d + 1 + 1 : Nat) : Int)) 5 dX7_years_67 rfl (w32_of (by omega) (by omega) (by omega)) (by decide) (ls' := [(5, vI ((d + 1 + 1 : Nat) : Int)), (0, vR 0), (1, vI ((x : Nat) : Int)), (2, vI ((n0 : Nat) : Int)), (3, vI ((b0 : Nat) : Int)), (4, vI i)]) rfl ?_
              refine V.goto (pc := 70) 35 dX7_years_70 (by decide) ?_
              refine V.locs [1, 2, 3, 4, 5, 0] (ls' := [(0, vR 0), (1, vI ((x : Nat) : Int)), (2, vI ((n0 : Nat) : Int)), (3, vI ((b0 : Nat) : Int)), (4, vI i), (5, vI ((d + 1 + 1 : Nat) : Int))]) rfl ?_
              exact ih35 (d + 1) g33 g34 g35 (by omega) (hT3) (hT4) (by omega)
      refine V.locs [1, 2, 3, 4, 5, 0] (ls' := [(0, vR 0), (1, vI ((x : Nat) : Int)), (2, vI ((n0 : Nat) : Int)), (3, vI ((b0 : Nat) : Int)), (4, vI i), (5, vI 1)]) rfl ?_
      exact lp35 _ 0 g33 g34 (hi 35) (by omega) (hY1) (hY2) (Nat.lt_succ_self _)
    · skip
      refine V.qI (pc := 11) rfl rfl ?_
      refine V.if_ne (pc := 14) 20 dX7_years_14 (by decide) (fun hc => by exact absurd hc (by decide)) (fun h14 => ?_)
      refine V.bipush (pc := 17) (z := (-2)) dX7_years_17 (by decide +kernel) ⟨by decide, by decide⟩ ?_
      refine V.iret (pc := 19) (z := (-2)) dX7_years_19 rfl ?_
      rw [upR_id, upR_id, upR_id]
      have hA : aYears (σ, m, hi 5, im) a n b i = -2 := by
        unfold aYears
        try dsimp only [gσ, gm, gg, gi]
        refine (if_neg (by first | omega | assumption)).trans ?_
        refine (if_pos (by first | omega | assumption)).trans ?_
        rfl
      rw [hA] at hq
      exact hq _ _ (by repeat (first | exact fr0 | refine fr1 (by decide) ?_ | refine fr2 (by decide) ?_ | refine fr3 (by decide) ?_ | refine fr4 (by decide) ?_)) hR
  · skip
    refine V.qI (pc := 1) rfl rfl ?_
    refine V.if_ne (pc := 4) 9 dX7_years_4 (by decide) (fun hc => by exact absurd hc (by decide)) (fun h4 => ?_)
    refine V.iconst (pc := 7) (z := (-1)) dX7_years_7 rfl ⟨by decide, by decide⟩ ?_
    refine V.iret (pc := 8) (z := (-1)) dX7_years_8 rfl ?_
    rw [upR_id, upR_id, upR_id]
    have hA : aYears (σ, m, hi 5, im) a n b i = -1 := by
      unfold aYears
      try dsimp only [gσ, gm, gg, gi]
      refine (if_pos (by first | omega | assumption)).trans ?_
      rfl
    rw [hA] at hq
    exact hq _ _ (by repeat (first | exact fr0 | refine fr1 (by decide) ?_ | refine fr2 (by decide) ?_ | refine fr3 (by decide) ?_ | refine fr4 (by decide) ?_)) hR

set_option maxRecDepth 100000 in
theorem c_X7_lost (hi hl : HI) (σ : SG) (m : Nat) (g : Nat → Int) (im : Nat → Option SG) (hR : RC hi hl (σ, m, g, im)) (a : Int) (n : Int) (b : Int) (Q : QT) (hq : ∀ hi' hl' : HI, FrC hi hl hi' hl' → RC hi' hl' (σ, m, g, im) → Q (some (vI (aLost (σ, m, g, im) a n b))) KW hi' hl') : Con eX7_lost [vR 0, vI a, vI n, vI b] KW hi hl Q := by
  refine Con.ofV (by decide +kernel) (Nat.le_of_ble_eq_true rfl) ?_
  show V eX7_lost none KW 0 [(0, vR 0), (1, vI a), (2, vI n), (3, vI b)] [] hi hl 0 0 Q
  refine V.hieq (hi' := (upR (upR (upR hi 35 (hi 35)) 33 (hi 33)) 34 (hi 34))) (by rw [upR_id, upR_id, upR_id]) ?_
  obtain ⟨hT, hC, ⟨hm, hm2, hg5, hgr⟩, ⟨k0, k1, k2, k3⟩, hfr, hwo⟩ := RC_o hR
  subst hg5
  have hwf := hC.1
  have hn16 := hwf.2.2.1
  have hbg := hwf.2.2.2.2.1
  refine V.iload_n (pc := 0) 3 dX7_lost_0 rfl ?_
  refine V.callS (pc := 1) (e1 := eX7_isBird) 1 [vI b] [] mfX7_isBird slX7_isBird mlX7_80 dX7_lost_1 rfl rfl (Nat.le_of_ble_eq_true rfl) ⟨by decide, by decide, by decide, by decide⟩ ?_
  refine c_X7_isBird KW (upR (upR (upR hi 35 (hi 35)) 33 (hi 33)) 34 (hi 34)) hl b _ (fun hb => ?_) (fun hb => ?_)
  · skip
    refine V.qI (pc := 1) rfl rfl ?_
    refine V.if_ne (pc := 4) 9 dX7_lost_4 (by decide) (fun h4 => ?_) (fun hc => by exact absurd hc (by decide))
    refine V.iload_n (pc := 9) 1 dX7_lost_9 rfl ?_
    refine V.iload_n (pc := 10) 2 dX7_lost_10 rfl ?_
    refine V.callS (pc := 11) (e1 := eX7_areYears) 2 [vI a, vI n] [] mfX7_areYears slX7_areYears mlX7_212 dX7_lost_11 rfl rfl (Nat.le_of_ble_eq_true rfl) ⟨by decide, by decide, by decide, by decide⟩ ?_
    refine c_X7_areYears KW (upR (upR (upR hi 35 (hi 35)) 33 (hi 33)) 34 (hi 34)) hl a n _ (fun hy => ?_) (fun hy => ?_)
    · skip
      refine V.qI (pc := 11) rfl rfl ?_
      refine V.if_ne (pc := 14) 20 dX7_lost_14 (by decide) (fun h14 => ?_) (fun hc => by exact absurd hc (by decide))
      obtain ⟨x, rfl⟩ : ∃ x : Nat, a = (x : Int) := ⟨a.toNat, by omega⟩
      obtain ⟨n0, rfl⟩ : ∃ n0 : Nat, n = (n0 : Int) := ⟨n.toNat, by omega⟩
      obtain ⟨b0, rfl⟩ : ∃ b0 : Nat, b = (b0 : Int) := ⟨b.toNat, by omega⟩
      refine V.aload_n (pc := 20) 0 dX7_lost_20 rfl ?_
      refine V.gr (pc := 21) 7 6 33 flX7_48 dX7_lost_21 (kS_0) (by decide) (by decide) rfl (kR_0_6) ?_
      refine V.aload_n (pc := 24) 0 dX7_lost_24 rfl ?_
      refine V.gr (pc := 25) 7 3 10 flX7_33 dX7_lost_25 (kS_0) (by decide) (by decide) rfl (kR_0_3) ?_
      refine V.iload_n (pc := 28) 1 dX7_lost_28 rfl ?_
      refine V.callV (pc := 29) (e1 := eX6_beginYears) (o := 33) (c := 6) 2 [vR 10, vI ((x : Nat) : Int)] [] mfX6_beginYears slX6_beginYears mlX7_216 dX7_lost_29 (kS_33) (by decide) rfl rfl rfl (Nat.le_of_ble_eq_true rfl) ⟨by decide, by decide, by decide, by decide⟩ ?_
      refine c_X6_beginYears (upR (upR (upR hi 35 (hi 35)) 33 (hi 33)) 34 (hi 34)) hl x _ (fun g33 g34 hY1 hY2 => ?_)
      refine V.qV (pc := 29) rfl rfl ?_
      refine V.hieq (hi' := (upR (upR (upR hi 35 (hi 35)) 33 g33) 34 g34)) ((upR_c (rs (by decide) r1)).trans r1) ?_
      refine V.iconst (pc := 32) (z := 1) dX7_lost_32 rfl ⟨by decide, by decide⟩ ?_
      refine V.istore (pc := 33) (i := 4) dX7_lost_33 (by decide) (ls' := [(4, vI 1), (0, vR 0), (1, vI ((x : Nat) : Int)), (2, vI ((n0 : Nat) : Int)), (3, vI ((b0 : Nat) : Int))]) rfl ?_
      have lp35 : ∀ (fu35 : Nat) (d : Nat) (g33 : Nat → Int) (g34 : Nat → Int) (g35 : Nat → Int), (d ≤ n0) → (g33 3 = ((yrun σ x d).2 : Nat)) → (∀ b, b < 6 → g34 b = encC ((yrun σ x d).1.1 b)) → (lsF σ x b0 d = -6) → n0 - d < fu35 → V eX7_lost none KW 35 [(0, vR 0), (1, vI ((x : Nat) : Int)), (2, vI ((n0 : Nat) : Int)), (3, vI ((b0 : Nat) : Int)), (4, vI ((d + 1 : Nat) : Int))] [] (upR (upR (upR hi 35 g35) 33 g33) 34 g34) hl 0 0 Q := by
        intro fu35
        induction fu35 with
        | zero => intro d g33 g34 g35 hd h33 h34 hls hm35; exact absurd hm35 (Nat.not_lt_zero _)
        | succ fu35 ih35 =>
          intro d g33 g34 g35 hd h33 h34 hls hm35
          refine V.iload (pc := 35) 4 dX7_lost_35 rfl ?_
          refine V.iload_n (pc := 37) 2 dX7_lost_37 rfl ?_
          refine V.icmp_gt (pc := 38) 95 dX7_lost_38 (by decide) (fun h38 => ?_) (fun h38 => ?_)
          · skip
            refine V.bipush (pc := 95) (z := (-6)) dX7_lost_95 (by decide +kernel) ⟨by decide, by decide⟩ ?_
            refine V.iret (pc := 97) (z := (-6)) dX7_lost_97 rfl ?_
            have e0 : d = n0 := by omega
            subst e0
            have hA : aLost (σ, m, hi 5, im) (x : Int) (d : Int) (b0 : Int) = -6 := by
              unfold aLost
              try dsimp only [gσ, gm, gg, gi]
              refine (if_neg (by first | omega | assumption)).trans ?_
              refine (if_neg (by first | omega | assumption)).trans ?_
              exact hls
            rw [hA] at hq
            exact hq _ _ (by repeat (first | exact fr0 | refine fr1 (by decide) ?_ | refine fr2 (by decide) ?_ | refine fr3 (by decide) ?_ | refine fr4 (by decide) ?_)) (RC_i (hT) (hC) (hm) (hm2) (rfl) (hgr) (k0) (k1) (k2) (k3) (hfr) (hwo))
          · skip
            refine V.aload_n (pc := 41) 0 dX7_lost_41 rfl ?_
            refine V.gr (pc := 42) 7 6 33 flX7_48 dX7_lost_42 (kS_0) (by decide) (by decide) rfl (kR_0_6) ?_
            refine V.aload_n (pc := 45) 0 dX7_lost_45 rfl ?_
            refine V.gr (pc := 46) 7 3 10 flX7_33 dX7_lost_46 (kS_0) (by decide) (by decide) rfl (kR_0_3) ?_
            refine V.aload_n (pc := 49) 0 dX7_lost_49 rfl ?_
            refine V.gr (pc := 50) 7 0 1 flX7_10 dX7_lost_50 (kS_0) (by decide) (by decide) rfl (kR_0_0) ?_
            refine V.iload (pc := 53) 4 dX7_lost_53 rfl ?_
            refine V.iconst (pc := 55) (z := 1) dX7_lost_55 rfl ⟨by decide, by decide⟩ ?_
            refine V.icmp_ne (pc := 56) 63 dX7_lost_56 (by decide) (fun h56 => ?_) (fun h56 => ?_)
            · skip
              refine V.iconst (pc := 63) (z := 0) dX7_lost_63 rfl ⟨by decide, by decide⟩ ?_
              refine V.top (v' := vI (b2i (d == 0))) (by have hd0 : (d == 0) = false := (beq_eq_false_iff_ne.mpr (by omega)); rw [hd0]; rfl) ?_
              refine V.callV (pc := 64) (e1 := eX6_throughDrawnDay) (o := 33) (c := 6) 3 [vR 10, vR 1, vI (b2i (d == 0))] [] mfX6_throughDrawnDay slX6_throughDrawnDay mlX7_220 dX7_lost_64 (kS_33) (by decide) rfl rfl rfl (Nat.le_of_ble_eq_true rfl) ⟨by decide, by decide, by decide, by decide⟩ ?_
              refine c_X6_throughDrawnDay (upR (upR (upR hi 35 g35) 33 g33) 34 g34) hl hT σ hC (d == 0) (yrun σ x d) (okW_yrun hwf d) (yrun_lt (by omega) d) h33 h34 _ (fun g33 g34 g35 hT3 hT4 => ?_)
              refine V.qV (pc := 64) rfl rfl ?_
              refine V.hieq (hi' := (upR (upR (upR hi 35 g35) 33 g33) 34 g34)) ((upR_c ((upR_c (rs (by decide) r1)).trans r1)).trans (rs (by decide) (rs (by decide) r1))) ?_
              refine V.aload_n (pc := 67) 0 dX7_lost_67 rfl ?_
              refine V.gr (pc := 68) 7 6 33 flX7_48 dX7_lost_68 (kS_0) (by decide) (by decide) rfl (kR_0_6) ?_
              refine V.gr (pc := 71) 6 0 34 flX7_149 dX7_lost_71 (kS_33) (by decide) (by decide) rfl (kR_33_0) ?_
              refine V.iload_n (pc := 74) 3 dX7_lost_74 rfl ?_
              refine V.ia (pc := 75) (len := 6) b0 (encC ((yrun σ x (d + 1)).1.1 b0)) dX7_lost_75 (kS_34) (rfl) (by omega) (hT4 b0 (by omega)) ?_
              refine V.aload_n (pc := 76) 0 dX7_lost_76 rfl ?_
              refine V.gr (pc := 77) 7 3 10 flX7_33 dX7_lost_77 (kS_0) (by decide) (by decide) rfl (kR_0_3) ?_
              refine V.gi (pc := 80) 0 3 ((bg σ : Nat) : Int) flX7_146 dX7_lost_80 (kS_10) (by decide) (by decide) rfl (hC.2.2.2.2.2.1) ?_
              refine V.icmp_eq (pc := 83) 89 dX7_lost_83 (by decide) (fun h83 => ?_) (fun h83 => ?_)
              · skip
                refine V.iinc (pc := 89) (r := ((d + 1 + 1 : Nat) : Int)) 4 dX7_lost_89 rfl (w32_of (by omega) (by omega) (by omega)) (by decide) (ls' := [(4, vI ((d + 1 + 1 : Nat) : Int)), (0, vR 0), (1, vI ((x : Nat) : Int)), (2, vI ((n0 : Nat) : Int)), (3, vI ((b0 : Nat) : Int))]) rfl ?_
                refine V.goto (pc := 92) 35 dX7_lost_92 (by decide) ?_
                refine V.locs [1, 2, 3, 4, 0] (ls' := [(0, vR 0), (1, vI ((x : Nat) : Int)), (2, vI ((n0 : Nat) : Int)), (3, vI ((b0 : Nat) : Int)), (4, vI ((d + 1 + 1 : Nat) : Int))]) rfl ?_
                exact ih35 (d + 1) g33 g34 g35 (by omega) (hT3) (hT4) (lsF_go hls (by omega)) (by omega)
              · skip
                refine V.iload (pc := 86) 4 dX7_lost_86 rfl ?_
                refine V.iret (pc := 88) (z := ((d + 1 : Nat) : Int)) dX7_lost_88 rfl ?_
                have hA : aLost (σ, m, hi 5, im) (x : Int) (n0 : Int) (b0 : Int) = ((d + 1 : Nat) : Int) := by
                  unfold aLost
                  try dsimp only [gσ, gm, gg, gi]
                  refine (if_neg (by first | omega | assumption)).trans ?_
                  refine (if_neg (by first | omega | assumption)).trans ?_
                  exact lsF_hit hls (by omega) n0 (by omega)
                rw [hA] at hq
                exact hq _ _ (by repeat (first | exact fr0 | refine fr1 (by decide) ?_ | refine fr2 (by decide) ?_ | refine fr3 (by decide) ?_ | refine fr4 (by decide) ?_)) (RC_i (hT) (hC) (hm) (hm2) (rfl) (hgr) (k0) (k1) (k2) (k3) (hfr) (hwo))
            · skip
              refine V.iconst (pc := 59) (z := 1) dX7_lost_59 rfl ⟨by decide, by decide⟩ ?_
              refine V.top (v' := vI (b2i (d == 0))) (by have hd0 : d = 0 := (by omega); subst hd0; rfl) ?_
              refine V.goto (pc := 60) 64 dX7_lost_60 (by decide) ?_
              refine V.callV (pc := 64) (e1 := eX6_throughDrawnDay) (o := 33) (c := 6) 3 [vR 10, vR 1, vI (b2i (d == 0))] [] mfX6_throughDrawnDay slX6_throughDrawnDay mlX7_220 dX7_lost_64 (kS_33) (by decide) rfl rfl rfl (Nat.le_of_ble_eq_true rfl) ⟨by decide, by decide, by decide, by decide⟩ ?_
              refine c_X6_throughDrawnDay (upR (upR (upR hi 35 g35) 33 g33) 34 g34) hl hT σ hC (d == 0) (yrun σ x d) (okW_yrun hwf d) (yrun_lt (by omega) d) h33 h34 _ (fun g33 g34 g35 hT3 hT4 => ?_)
              refine V.qV (pc := 64) rfl rfl ?_
              refine V.hieq (hi' := (upR (upR (upR hi 35 g35) 33 g33) 34 g34)) ((upR_c ((upR_c (rs (by decide) r1)).trans r1)).trans (rs (by decide) (rs (by decide) r1))) ?_
              refine V.aload_n (pc := 67) 0 dX7_lost_67 rfl ?_
              refine V.gr (pc := 68) 7 6 33 flX7_48 dX7_lost_68 (kS_0) (by decide) (by decide) rfl (kR_0_6) ?_
              refine V.gr (pc := 71) 6 0 34 flX7_149 dX7_lost_71 (kS_33) (by decide) (by decide) rfl (kR_33_0) ?_
              refine V.iload_n (pc := 74) 3 dX7_lost_74 rfl ?_
              refine V.ia (pc := 75) (len := 6) b0 (encC ((yrun σ x (d + 1)).1.1 b0)) dX7_lost_75 (kS_34) (rfl) (by omega) (hT4 b0 (by omega)) ?_
              refine V.aload_n (pc := 76) 0 dX7_lost_76 rfl ?_
              refine V.gr (pc := 77) 7 3 10 flX7_33 dX7_lost_77 (kS_0) (by decide) (by decide) rfl (kR_0_3) ?_
              refine V.gi (pc := 80) 0 3 ((bg σ : Nat) : Int) flX7_146 dX7_lost_80 (kS_10) (by decide) (by decide) rfl (hC.2.2.2.2.2.1) ?_
              refine V.icmp_eq (pc := 83) 89 dX7_lost_83 (by decide) (fun h83 => ?_) (fun h83 => ?_)
              · skip
                refine V.iinc (pc := 89) (r := ((d + 1 + 1 : Nat) : Int)) 4 dX7_lost_89 rfl (w32_of (by omega) (by omega) (by omega)) (by decide) (ls' := [(4, vI ((d + 1 + 1 : Nat) : Int)), (0, vR 0), (1, vI ((x : Nat) : Int)), (2, vI ((n0 : Nat) : Int)), (3, vI ((b0 : Nat) : Int))]) rfl ?_
                refine V.goto (pc := 92) 35 dX7_lost_92 (by decide) ?_
                refine V.locs [1, 2, 3, 4, 0] (ls' := [(0, vR 0), (1, vI ((x : Nat) : Int)), (2, vI ((n0 : Nat) : Int)), (3, vI ((b0 : Nat) : Int)), (4, vI ((d + 1 + 1 : Nat) : Int))]) rfl ?_
                exact ih35 (d + 1) g33 g34 g35 (by omega) (hT3) (hT4) (lsF_go hls (by omega)) (by omega)
              · skip
                refine V.iload (pc := 86) 4 dX7_lost_86 rfl ?_
                refine V.iret (pc := 88) (z := ((d + 1 : Nat) : Int)) dX7_lost_88 rfl ?_
                have hA : aLost (σ, m, hi 5, im) (x : Int) (n0 : Int) (b0 : Int) = ((d + 1 : Nat) : Int) := by
                  unfold aLost
                  try dsimp only [gσ, gm, gg, gi]
                  refine (if_neg (by first | omega | assumption)).trans ?_
                  refine (if_neg (by first | omega | assumption)).trans ?_
                  exact lsF_hit hls (by omega) n0 (by omega)
                rw [hA] at hq
                exact hq _ _ (by repeat (first | exact fr0 | refine fr1 (by decide) ?_ | refine fr2 (by decide) ?_ | refine fr3 (by decide) ?_ | refine fr4 (by decide) ?_)) (RC_i (hT) (hC) (hm) (hm2) (rfl) (hgr) (k0) (k1) (k2) (k3) (hfr) (hwo))
      refine V.locs [1, 2, 3, 4, 0] (ls' := [(0, vR 0), (1, vI ((x : Nat) : Int)), (2, vI ((n0 : Nat) : Int)), (3, vI ((b0 : Nat) : Int)), (4, vI 1)]) rfl ?_
      exact lp35 _ 0 g33 g34 (hi 35) (by omega) (hY1) (hY2) (rfl) (Nat.lt_succ_self _)
    · skip
      refine V.qI (pc := 11) rfl rfl ?_
      refine V.if_ne (pc := 14) 20 dX7_lost_14 (by decide) (fun hc => by exact absurd hc (by decide)) (fun h14 => ?_)
      refine V.bipush (pc := 17) (z := (-2)) dX7_lost_17 (by decide +kernel) ⟨by decide, by decide⟩ ?_
      refine V.iret (pc := 19) (z := (-2)) dX7_lost_19 rfl ?_
      rw [upR_id, upR_id, upR_id]
      have hA : aLost (σ, m, hi 5, im) a n b = -2 := by
        unfold aLost
        try dsimp only [gσ, gm, gg, gi]
        refine (if_neg (by first | omega | assumption)).trans ?_
        refine (if_pos (by first | omega | assumption)).trans ?_
        rfl
      rw [hA] at hq
      exact hq _ _ (by repeat (first | exact fr0 | refine fr1 (by decide) ?_ | refine fr2 (by decide) ?_ | refine fr3 (by decide) ?_ | refine fr4 (by decide) ?_)) hR
  · skip
    refine V.qI (pc := 1) rfl rfl ?_
    refine V.if_ne (pc := 4) 9 dX7_lost_4 (by decide) (fun hc => by exact absurd hc (by decide)) (fun h4 => ?_)
    refine V.iconst (pc := 7) (z := (-1)) dX7_lost_7 rfl ⟨by decide, by decide⟩ ?_
    refine V.iret (pc := 8) (z := (-1)) dX7_lost_8 rfl ?_
    rw [upR_id, upR_id, upR_id]
    have hA : aLost (σ, m, hi 5, im) a n b = -1 := by
      unfold aLost
      try dsimp only [gσ, gm, gg, gi]
      refine (if_pos (by first | omega | assumption)).trans ?_
      rfl
    rw [hA] at hq
    exact hq _ _ (by repeat (first | exact fr0 | refine fr1 (by decide) ?_ | refine fr2 (by decide) ?_ | refine fr3 (by decide) ?_ | refine fr4 (by decide) ?_)) hR

set_option maxRecDepth 100000 in
theorem c_X7_image (hi hl : HI) (σ : SG) (m : Nat) (g : Nat → Int) (im : Nat → Option SG) (hR : RC hi hl (σ, m, g, im)) (n : Int) (Q : QT) (hq : ∀ hi' hl' : HI, FrC hi hl hi' hl' → RC hi' hl' (nImg (σ, m, g, im) n) → Q (some (vI (aImg (σ, m, g, im) n))) KW hi' hl') : Con eX7_image [vR 0, vI n] KW hi hl Q := by
  refine Con.ofV (by decide +kernel) (Nat.le_of_ble_eq_true rfl) ?_
  show V eX7_image none KW 0 [(0, vR 0), (1, vI n)] [] hi hl 0 0 Q
  obtain ⟨hT, hC, ⟨hm, hm2, hg5, hgr⟩, ⟨k0, k1, k2, k3⟩, hfr, hwo⟩ := RC_o hR
  subst hg5
  have hwf := hC.1
  have hn16 := hwf.2.2.1
  have hbg := hwf.2.2.2.2.1
  refine V.iload_n (pc := 0) 1 dX7_image_0 rfl ?_
  refine V.if_lt (pc := 1) 9 dX7_image_1 (by decide) (fun h1 => ?_) (fun h1 => ?_)
  · skip
    refine V.bipush (pc := 9) (z := (-2)) dX7_image_9 (by decide +kernel) ⟨by decide, by decide⟩ ?_
    refine V.iret (pc := 11) (z := (-2)) dX7_image_11 rfl ?_
    have hA : aImg (σ, m, hi 5, im) n = -2 := by
      unfold aImg
      try dsimp only [gσ, gm, gg, gi]
      refine (if_pos (by first | omega | assumption)).trans ?_
      rfl
    rw [hA] at hq
    have hN : nImg (σ, m, hi 5, im) n = (σ, m, hi 5, im) := by
      unfold nImg
      try dsimp only [gσ, gm, gg, gi]
      refine (if_pos (by first | omega | assumption)).trans ?_
      rfl
    rw [hN] at hq
    exact hq _ _ (by repeat (first | exact fr0 | refine fr1 (by decide) ?_ | refine fr2 (by decide) ?_ | refine fr3 (by decide) ?_ | refine fr4 (by decide) ?_)) hR
  · skip
    refine V.iload_n (pc := 4) 1 dX7_image_4 rfl ?_
    refine V.iconst (pc := 5) (z := 2) dX7_image_5 rfl ⟨by decide, by decide⟩ ?_
    refine V.icmp_lt (pc := 6) 12 dX7_image_6 (by decide) (fun h6 => ?_) (fun h6 => ?_)
    · skip
      rcases (show n = 0 ∨ n = 1 by omega) with rfl | rfl
      · skip
        refine V.aload_n (pc := 12) 0 dX7_image_12 rfl ?_
        refine V.gr (pc := 13) 7 4 17 flX7_37 dX7_image_13 (kS_0) (by decide) (by decide) rfl (kR_0_4) ?_
        refine V.iload_n (pc := 16) 1 dX7_image_16 rfl ?_
        refine V.aald (pc := 17) (o' := 18) (len := 2) (t := 0) 0 dX7_image_17 (kS_17) (by decide) (kR_17_0) (rfl) (by decide) ?_
        refine V.aload_n (pc := 18) 0 dX7_image_18 rfl ?_
        refine V.gr (pc := 19) 7 3 10 flX7_33 dX7_image_19 (kS_0) (by decide) (by decide) rfl (kR_0_3) ?_
        refine V.callV (pc := 22) (e1 := eX0_copy) (o := 18) (c := 0) 1 [vR 10] [] mfX0_copy slX0_copy mlX7_224 dX7_image_22 (kS_18) (by decide) rfl rfl rfl (Nat.le_of_ble_eq_true rfl) ⟨by decide, by decide, by decide, by decide⟩ ?_
        refine c_X0_copy_18_10 hi hl _ (fun s1 s2 d1 d2 d3 hSc hDc => ?_)
        refine V.qV (pc := 22) rfl rfl ?_
        refine V.hieq (hi' := (upR (upR (upR (upR (upR (upR (upR hi 19 s1) 20 s2) 18 (updF (updF (hi 18) 3 (hi 10 3)) 4 (hi 10 4))) 22 d1) 23 d2) 24 d3) 21 (updF (hi 21) 3 (hi 13 3)))) ((upR_c ((upR_c ((upR_c ((upR_c ((upR_c ((upR_c r0).trans (rs (by decide) r0))).trans (rs (by decide) (rs (by decide) r0)))).trans (rs (by decide) (rs (by decide) (rs (by decide) r0))))).trans (rs (by decide) (rs (by decide) (rs (by decide) (rs (by decide) r0)))))).trans (rs (by decide) (rs (by decide) (rs (by decide) (rs (by decide) (rs (by decide) r0))))))).trans (rs (by decide) (rs (by decide) (rs (by decide) (rs (by decide) (rs (by decide) (rs (by decide) r0))))))) ?_
        refine V.aload_n (pc := 25) 0 dX7_image_25 rfl ?_
        refine V.gr (pc := 26) 7 5 32 flX7_41 dX7_image_26 (kS_0) (by decide) (by decide) rfl (kR_0_5) ?_
        refine V.iload_n (pc := 29) 1 dX7_image_29 rfl ?_
        refine V.iconst (pc := 30) (z := 1) dX7_image_30 rfl ⟨by decide, by decide⟩ ?_
        refine V.zs (pc := 31) (len := 2) (hi' := (upR (upR (upR (upR (upR (upR (upR (upR hi 32 (updF (hi 32) 0 1)) 19 s1) 20 s2) 18 (updF (updF (hi 18) 3 (hi 10 3)) 4 (hi 10 4))) 22 d1) 23 d2) 24 d3) 21 (updF (hi 21) 3 (hi 13 3)))) 0 dX7_image_31 (kS_32) (rfl) (by decide) (Or.inr rfl) (us (by decide) (us (by decide) (us (by decide) (us (by decide) (us (by decide) (us (by decide) (us (by decide) u0))))))) ?_
        refine V.iconst (pc := 32) (z := 1) dX7_image_32 rfl ⟨by decide, by decide⟩ ?_
        refine V.iret (pc := 33) (z := 1) dX7_image_33 rfl ?_
        have hA : aImg (σ, m, hi 5, im) 0 = 1 := by
          unfold aImg
          try dsimp only [gσ, gm, gg, gi]
          refine (if_neg (by first | omega | assumption)).trans ?_
          rfl
        rw [hA] at hq
        have hN : nImg (σ, m, hi 5, im) 0 = (σ, m, hi 5, updF im 0 (some σ)) := by
          unfold nImg
          try dsimp only [gσ, gm, gg, gi]
          refine (if_neg (by first | omega | assumption)).trans ?_
          rfl
        rw [hN] at hq
        exact hq _ _ (by repeat (first | exact fr0 | refine fr1 (by decide) ?_ | refine fr2 (by decide) ?_ | refine fr3 (by decide) ?_ | refine fr4 (by decide) ?_)) (RC_i (hT) (hC) (hm) (hm2) (rfl) (hgr) (by rw [show updF im 0 (some σ) 0 = some σ from updF_s]; rfl) (k1) (fun τ h => by cases h; exact CR_copy 10 18 hC hSc hDc rfl rfl rfl rfl rfl rfl rfl rfl) (fun τ h => k3 τ h) (hfr) (hwo))
      · skip
        refine V.aload_n (pc := 12) 0 dX7_image_12 rfl ?_
        refine V.gr (pc := 13) 7 4 17 flX7_37 dX7_image_13 (kS_0) (by decide) (by decide) rfl (kR_0_4) ?_
        refine V.iload_n (pc := 16) 1 dX7_image_16 rfl ?_
        refine V.aald (pc := 17) (o' := 25) (len := 2) (t := 0) 1 dX7_image_17 (kS_17) (by decide) (kR_17_1) (rfl) (by decide) ?_
        refine V.aload_n (pc := 18) 0 dX7_image_18 rfl ?_
        refine V.gr (pc := 19) 7 3 10 flX7_33 dX7_image_19 (kS_0) (by decide) (by decide) rfl (kR_0_3) ?_
        refine V.callV (pc := 22) (e1 := eX0_copy) (o := 25) (c := 0) 1 [vR 10] [] mfX0_copy slX0_copy mlX7_224 dX7_image_22 (kS_25) (by decide) rfl rfl rfl (Nat.le_of_ble_eq_true rfl) ⟨by decide, by decide, by decide, by decide⟩ ?_
        refine c_X0_copy_25_10 hi hl _ (fun s1 s2 d1 d2 d3 hSc hDc => ?_)
        refine V.qV (pc := 22) rfl rfl ?_
        refine V.hieq (hi' := (upR (upR (upR (upR (upR (upR (upR hi 26 s1) 27 s2) 25 (updF (updF (hi 25) 3 (hi 10 3)) 4 (hi 10 4))) 29 d1) 30 d2) 31 d3) 28 (updF (hi 28) 3 (hi 13 3)))) ((upR_c ((upR_c ((upR_c ((upR_c ((upR_c ((upR_c r0).trans (rs (by decide) r0))).trans (rs (by decide) (rs (by decide) r0)))).trans (rs (by decide) (rs (by decide) (rs (by decide) r0))))).trans (rs (by decide) (rs (by decide) (rs (by decide) (rs (by decide) r0)))))).trans (rs (by decide) (rs (by decide) (rs (by decide) (rs (by decide) (rs (by decide) r0))))))).trans (rs (by decide) (rs (by decide) (rs (by decide) (rs (by decide) (rs (by decide) (rs (by decide) r0))))))) ?_
        refine V.aload_n (pc := 25) 0 dX7_image_25 rfl ?_
        refine V.gr (pc := 26) 7 5 32 flX7_41 dX7_image_26 (kS_0) (by decide) (by decide) rfl (kR_0_5) ?_
        refine V.iload_n (pc := 29) 1 dX7_image_29 rfl ?_
        refine V.iconst (pc := 30) (z := 1) dX7_image_30 rfl ⟨by decide, by decide⟩ ?_
        refine V.zs (pc := 31) (len := 2) (hi' := (upR (upR (upR (upR (upR (upR (upR (upR hi 32 (updF (hi 32) 1 1)) 26 s1) 27 s2) 25 (updF (updF (hi 25) 3 (hi 10 3)) 4 (hi 10 4))) 29 d1) 30 d2) 31 d3) 28 (updF (hi 28) 3 (hi 13 3)))) 1 dX7_image_31 (kS_32) (rfl) (by decide) (Or.inr rfl) (us (by decide) (us (by decide) (us (by decide) (us (by decide) (us (by decide) (us (by decide) (us (by decide) u0))))))) ?_
        refine V.iconst (pc := 32) (z := 1) dX7_image_32 rfl ⟨by decide, by decide⟩ ?_
        refine V.iret (pc := 33) (z := 1) dX7_image_33 rfl ?_
        have hA : aImg (σ, m, hi 5, im) 1 = 1 := by
          unfold aImg
          try dsimp only [gσ, gm, gg, gi]
          refine (if_neg (by first | omega | assumption)).trans ?_
          rfl
        rw [hA] at hq
        have hN : nImg (σ, m, hi 5, im) 1 = (σ, m, hi 5, updF im 1 (some σ)) := by
          unfold nImg
          try dsimp only [gσ, gm, gg, gi]
          refine (if_neg (by first | omega | assumption)).trans ?_
          rfl
        rw [hN] at hq
        exact hq _ _ (by repeat (first | exact fr0 | refine fr1 (by decide) ?_ | refine fr2 (by decide) ?_ | refine fr3 (by decide) ?_ | refine fr4 (by decide) ?_)) (RC_i (hT) (hC) (hm) (hm2) (rfl) (hgr) (k0) (by rw [show updF im 1 (some σ) 1 = some σ from updF_s]; rfl) (fun τ h => k2 τ h) (fun τ h => by cases h; exact CR_copy 10 25 hC hSc hDc rfl rfl rfl rfl rfl rfl rfl rfl) (hfr) (hwo))
    · skip
      refine V.bipush (pc := 9) (z := (-2)) dX7_image_9 (by decide +kernel) ⟨by decide, by decide⟩ ?_
      refine V.iret (pc := 11) (z := (-2)) dX7_image_11 rfl ?_
      have hA : aImg (σ, m, hi 5, im) n = -2 := by
        unfold aImg
        try dsimp only [gσ, gm, gg, gi]
        refine (if_pos (by first | omega | assumption)).trans ?_
        rfl
      rw [hA] at hq
      have hN : nImg (σ, m, hi 5, im) n = (σ, m, hi 5, im) := by
        unfold nImg
        try dsimp only [gσ, gm, gg, gi]
        refine (if_pos (by first | omega | assumption)).trans ?_
        rfl
      rw [hN] at hq
      exact hq _ _ (by repeat (first | exact fr0 | refine fr1 (by decide) ?_ | refine fr2 (by decide) ?_ | refine fr3 (by decide) ?_ | refine fr4 (by decide) ?_)) hR

set_option maxRecDepth 100000 in
theorem c_X7_restore (hi hl : HI) (σ : SG) (m : Nat) (g : Nat → Int) (im : Nat → Option SG) (hR : RC hi hl (σ, m, g, im)) (n : Int) (Q : QT) (hq : ∀ hi' hl' : HI, FrC hi hl hi' hl' → RC hi' hl' (nRes (σ, m, g, im) n) → Q (some (vI (aRes (σ, m, g, im) n))) KW hi' hl') : Con eX7_restore [vR 0, vI n] KW hi hl Q := by
  refine Con.ofV (by decide +kernel) (Nat.le_of_ble_eq_true rfl) ?_
  show V eX7_restore none KW 0 [(0, vR 0), (1, vI n)] [] hi hl 0 0 Q
  obtain ⟨hT, hC, ⟨hm, hm2, hg5, hgr⟩, ⟨k0, k1, k2, k3⟩, hfr, hwo⟩ := RC_o hR
  subst hg5
  have hwf := hC.1
  have hn16 := hwf.2.2.1
  have hbg := hwf.2.2.2.2.1
  refine V.iload_n (pc := 0) 1 dX7_restore_0 rfl ?_
  refine V.if_lt (pc := 1) 9 dX7_restore_1 (by decide) (fun h1 => ?_) (fun h1 => ?_)
  · skip
    refine V.bipush (pc := 9) (z := (-2)) dX7_restore_9 (by decide +kernel) ⟨by decide, by decide⟩ ?_
    refine V.iret (pc := 11) (z := (-2)) dX7_restore_11 rfl ?_
    have hA : aRes (σ, m, hi 5, im) n = -2 := by
      unfold aRes
      try dsimp only [gσ, gm, gg, gi]
      refine (if_pos (by first | omega | assumption)).trans ?_
      rfl
    rw [hA] at hq
    have hN : nRes (σ, m, hi 5, im) n = (σ, m, hi 5, im) := by
      unfold nRes
      try dsimp only [gσ, gm, gg, gi]
      refine (if_pos (by first | omega | assumption)).trans ?_
      rfl
    rw [hN] at hq
    exact hq _ _ (by repeat (first | exact fr0 | refine fr1 (by decide) ?_ | refine fr2 (by decide) ?_ | refine fr3 (by decide) ?_ | refine fr4 (by decide) ?_)) hR
  · skip
    refine V.iload_n (pc := 4) 1 dX7_restore_4 rfl ?_
    refine V.iconst (pc := 5) (z := 2) dX7_restore_5 rfl ⟨by decide, by decide⟩ ?_
    refine V.icmp_lt (pc := 6) 12 dX7_restore_6 (by decide) (fun h6 => ?_) (fun h6 => ?_)
    · skip
      rcases (show n = 0 ∨ n = 1 by omega) with rfl | rfl
      · skip
        refine V.aload_n (pc := 12) 0 dX7_restore_12 rfl ?_
        refine V.gr (pc := 13) 7 5 32 flX7_41 dX7_restore_13 (kS_0) (by decide) (by decide) rfl (kR_0_5) ?_
        refine V.iload_n (pc := 16) 1 dX7_restore_16 rfl ?_
        refine V.za (pc := 17) (len := 2) 0 (b2i (im 0).isSome) dX7_restore_17 (kS_32) (rfl) (by decide) (k0) ?_
        refine V.if_ne (pc := 18) 24 dX7_restore_18 (by decide) (fun h18 => ?_) (fun h18 => ?_)
        · obtain ⟨τ, hτ⟩ : ∃ τ, im 0 = some τ := Option.isSome_iff_exists.mp (b2i_T h18)
          refine V.aload_n (pc := 24) 0 dX7_restore_24 rfl ?_
          refine V.gr (pc := 25) 7 3 10 flX7_33 dX7_restore_25 (kS_0) (by decide) (by decide) rfl (kR_0_3) ?_
          refine V.aload_n (pc := 28) 0 dX7_restore_28 rfl ?_
          refine V.gr (pc := 29) 7 4 17 flX7_37 dX7_restore_29 (kS_0) (by decide) (by decide) rfl (kR_0_4) ?_
          refine V.iload_n (pc := 32) 1 dX7_restore_32 rfl ?_
          refine V.aald (pc := 33) (o' := 18) (len := 2) (t := 0) 0 dX7_restore_33 (kS_17) (by decide) (kR_17_0) (rfl) (by decide) ?_
          refine V.callV (pc := 34) (e1 := eX0_copy) (o := 10) (c := 0) 1 [vR 18] [] mfX0_copy slX0_copy mlX7_224 dX7_restore_34 (kS_10) (by decide) rfl rfl rfl (Nat.le_of_ble_eq_true rfl) ⟨by decide, by decide, by decide, by decide⟩ ?_
          refine c_X0_copy_10_18 hi hl _ (fun s1 s2 d1 d2 d3 hSc hDc => ?_)
          refine V.qV (pc := 34) rfl rfl ?_
          refine V.hieq (hi' := (upR (upR (upR (upR (upR (upR (upR hi 11 s1) 12 s2) 10 (updF (updF (hi 10) 3 (hi 18 3)) 4 (hi 18 4))) 14 d1) 15 d2) 16 d3) 13 (updF (hi 13) 3 (hi 21 3)))) ((upR_c ((upR_c ((upR_c ((upR_c ((upR_c ((upR_c r0).trans (rs (by decide) r0))).trans (rs (by decide) (rs (by decide) r0)))).trans (rs (by decide) (rs (by decide) (rs (by decide) r0))))).trans (rs (by decide) (rs (by decide) (rs (by decide) (rs (by decide) r0)))))).trans (rs (by decide) (rs (by decide) (rs (by decide) (rs (by decide) (rs (by decide) r0))))))).trans (rs (by decide) (rs (by decide) (rs (by decide) (rs (by decide) (rs (by decide) (rs (by decide) r0))))))) ?_
          refine V.aload_n (pc := 37) 0 dX7_restore_37 rfl ?_
          refine V.callV (pc := 38) (e1 := eX7_forgetHistories) (o := 0) (c := 7) 0 [] [] mfX7_forgetHistories slX7_forgetHistories mlX7_87 dX7_restore_38 (kS_0) (by decide) rfl rfl rfl (Nat.le_of_ble_eq_true rfl) ⟨by decide, by decide, by decide, by decide⟩ ?_
          refine c_X7_forgetHistories (upR (upR (upR (upR (upR (upR (upR hi 11 s1) 12 s2) 10 (updF (updF (hi 10) 3 (hi 18 3)) 4 (hi 18 4))) 14 d1) 15 d2) 16 d3) 13 (updF (hi 13) 3 (hi 21 3))) hl _ ?_
          refine V.qV (pc := 38) rfl rfl ?_
          refine V.hieq (hi' := (upR (upR (upR (upR (upR (upR (upR (upR hi 0 (updF (updF (hi 0) 11 0) 12 0)) 11 s1) 12 s2) 10 (updF (updF (hi 10) 3 (hi 18 3)) 4 (hi 18 4))) 14 d1) 15 d2) 16 d3) 13 (updF (hi 13) 3 (hi 21 3)))) (rs (by decide) (rs (by decide) (rs (by decide) (rs (by decide) (rs (by decide) (rs (by decide) (rs (by decide) r0))))))) ?_
          refine V.iconst (pc := 41) (z := 1) dX7_restore_41 rfl ⟨by decide, by decide⟩ ?_
          refine V.iret (pc := 42) (z := 1) dX7_restore_42 rfl ?_
          have hA : aRes (σ, m, hi 5, im) 0 = 1 := by
            unfold aRes
            try dsimp only [gσ, gm, gg, gi]
            refine (if_neg (by first | omega | assumption)).trans ?_
            refine (if_neg (show ¬ im 0 = none by rw [hτ]; simp)).trans ?_
            rfl
          rw [hA] at hq
          have hN : nRes (σ, m, hi 5, im) 0 = (τ, m, hi 5, im) := by
            unfold nRes
            try dsimp only [gσ, gm, gg, gi]
            refine (if_neg (by first | omega | assumption)).trans ?_
            show (match im 0 with | none => (σ, m, hi 5, im) | some τ => (τ, m, hi 5, im)) = _
            rw [hτ]
          rw [hN] at hq
          exact hq _ _ (by repeat (first | exact fr0 | refine fr1 (by decide) ?_ | refine fr2 (by decide) ?_ | refine fr3 (by decide) ?_ | refine fr4 (by decide) ?_)) (RC_i (hT) (CR_copy 18 10 (k2 τ hτ) hSc hDc rfl rfl rfl rfl rfl rfl rfl rfl) (hm) (hm2) (rfl) (hgr) (k0) (k1) (k2) (k3) (Or.inl rfl) (Or.inl rfl))
        · have hτ : im 0 = none := Option.isNone_iff_eq_none.mp (by have := b2i_F (show b2i (im 0).isSome = 0 by omega); cases hh : im 0 with | none => rfl | some _ => rw [hh] at this; cases this)
          refine V.bipush (pc := 21) (z := (-3)) dX7_restore_21 (by decide +kernel) ⟨by decide, by decide⟩ ?_
          refine V.iret (pc := 23) (z := (-3)) dX7_restore_23 rfl ?_
          have hA : aRes (σ, m, hi 5, im) 0 = -3 := by
            unfold aRes
            try dsimp only [gσ, gm, gg, gi]
            refine (if_neg (by first | omega | assumption)).trans ?_
            refine (if_pos hτ).trans ?_
            rfl
          rw [hA] at hq
          have hN : nRes (σ, m, hi 5, im) 0 = (σ, m, hi 5, im) := by
            unfold nRes
            try dsimp only [gσ, gm, gg, gi]
            refine (if_neg (by first | omega | assumption)).trans ?_
            show (match im 0 with | none => (σ, m, hi 5, im) | some τ => (τ, m, hi 5, im)) = _
            rw [hτ]
          rw [hN] at hq
          exact hq _ _ (by repeat (first | exact fr0 | refine fr1 (by decide) ?_ | refine fr2 (by decide) ?_ | refine fr3 (by decide) ?_ | refine fr4 (by decide) ?_)) hR
      · skip
        refine V.aload_n (pc := 12) 0 dX7_restore_12 rfl ?_
        refine V.gr (pc := 13) 7 5 32 flX7_41 dX7_restore_13 (kS_0) (by decide) (by decide) rfl (kR_0_5) ?_
        refine V.iload_n (pc := 16) 1 dX7_restore_16 rfl ?_
        refine V.za (pc := 17) (len := 2) 1 (b2i (im 1).isSome) dX7_restore_17 (kS_32) (rfl) (by decide) (k1) ?_
        refine V.if_ne (pc := 18) 24 dX7_restore_18 (by decide) (fun h18 => ?_) (fun h18 => ?_)
        · obtain ⟨τ, hτ⟩ : ∃ τ, im 1 = some τ := Option.isSome_iff_exists.mp (b2i_T h18)
          refine V.aload_n (pc := 24) 0 dX7_restore_24 rfl ?_
          refine V.gr (pc := 25) 7 3 10 flX7_33 dX7_restore_25 (kS_0) (by decide) (by decide) rfl (kR_0_3) ?_
          refine V.aload_n (pc := 28) 0 dX7_restore_28 rfl ?_
          refine V.gr (pc := 29) 7 4 17 flX7_37 dX7_restore_29 (kS_0) (by decide) (by decide) rfl (kR_0_4) ?_
          refine V.iload_n (pc := 32) 1 dX7_restore_32 rfl ?_
          refine V.aald (pc := 33) (o' := 25) (len := 2) (t := 0) 1 dX7_restore_33 (kS_17) (by decide) (kR_17_1) (rfl) (by decide) ?_
          refine V.callV (pc := 34) (e1 := eX0_copy) (o := 10) (c := 0) 1 [vR 25] [] mfX0_copy slX0_copy mlX7_224 dX7_restore_34 (kS_10) (by decide) rfl rfl rfl (Nat.le_of_ble_eq_true rfl) ⟨by decide, by decide, by decide, by decide⟩ ?_
          refine c_X0_copy_10_25 hi hl _ (fun s1 s2 d1 d2 d3 hSc hDc => ?_)
          refine V.qV (pc := 34) rfl rfl ?_
          refine V.hieq (hi' := (upR (upR (upR (upR (upR (upR (upR hi 11 s1) 12 s2) 10 (updF (updF (hi 10) 3 (hi 25 3)) 4 (hi 25 4))) 14 d1) 15 d2) 16 d3) 13 (updF (hi 13) 3 (hi 28 3)))) ((upR_c ((upR_c ((upR_c ((upR_c ((upR_c ((upR_c r0).trans (rs (by decide) r0))).trans (rs (by decide) (rs (by decide) r0)))).trans (rs (by decide) (rs (by decide) (rs (by decide) r0))))).trans (rs (by decide) (rs (by decide) (rs (by decide) (rs (by decide) r0)))))).trans (rs (by decide) (rs (by decide) (rs (by decide) (rs (by decide) (rs (by decide) r0))))))).trans (rs (by decide) (rs (by decide) (rs (by decide) (rs (by decide) (rs (by decide) (rs (by decide) r0))))))) ?_
          refine V.aload_n (pc := 37) 0 dX7_restore_37 rfl ?_
          refine V.callV (pc := 38) (e1 := eX7_forgetHistories) (o := 0) (c := 7) 0 [] [] mfX7_forgetHistories slX7_forgetHistories mlX7_87 dX7_restore_38 (kS_0) (by decide) rfl rfl rfl (Nat.le_of_ble_eq_true rfl) ⟨by decide, by decide, by decide, by decide⟩ ?_
          refine c_X7_forgetHistories (upR (upR (upR (upR (upR (upR (upR hi 11 s1) 12 s2) 10 (updF (updF (hi 10) 3 (hi 25 3)) 4 (hi 25 4))) 14 d1) 15 d2) 16 d3) 13 (updF (hi 13) 3 (hi 28 3))) hl _ ?_
          refine V.qV (pc := 38) rfl rfl ?_
          refine V.hieq (hi' := (upR (upR (upR (upR (upR (upR (upR (upR hi 0 (updF (updF (hi 0) 11 0) 12 0)) 11 s1) 12 s2) 10 (updF (updF (hi 10) 3 (hi 25 3)) 4 (hi 25 4))) 14 d1) 15 d2) 16 d3) 13 (updF (hi 13) 3 (hi 28 3)))) (rs (by decide) (rs (by decide) (rs (by decide) (rs (by decide) (rs (by decide) (rs (by decide) (rs (by decide) r0))))))) ?_
          refine V.iconst (pc := 41) (z := 1) dX7_restore_41 rfl ⟨by decide, by decide⟩ ?_
          refine V.iret (pc := 42) (z := 1) dX7_restore_42 rfl ?_
          have hA : aRes (σ, m, hi 5, im) 1 = 1 := by
            unfold aRes
            try dsimp only [gσ, gm, gg, gi]
            refine (if_neg (by first | omega | assumption)).trans ?_
            refine (if_neg (show ¬ im 1 = none by rw [hτ]; simp)).trans ?_
            rfl
          rw [hA] at hq
          have hN : nRes (σ, m, hi 5, im) 1 = (τ, m, hi 5, im) := by
            unfold nRes
            try dsimp only [gσ, gm, gg, gi]
            refine (if_neg (by first | omega | assumption)).trans ?_
            show (match im 1 with | none => (σ, m, hi 5, im) | some τ => (τ, m, hi 5, im)) = _
            rw [hτ]
          rw [hN] at hq
          exact hq _ _ (by repeat (first | exact fr0 | refine fr1 (by decide) ?_ | refine fr2 (by decide) ?_ | refine fr3 (by decide) ?_ | refine fr4 (by decide) ?_)) (RC_i (hT) (CR_copy 25 10 (k3 τ hτ) hSc hDc rfl rfl rfl rfl rfl rfl rfl rfl) (hm) (hm2) (rfl) (hgr) (k0) (k1) (k2) (k3) (Or.inl rfl) (Or.inl rfl))
        · have hτ : im 1 = none := Option.isNone_iff_eq_none.mp (by have := b2i_F (show b2i (im 1).isSome = 0 by omega); cases hh : im 1 with | none => rfl | some _ => rw [hh] at this; cases this)
          refine V.bipush (pc := 21) (z := (-3)) dX7_restore_21 (by decide +kernel) ⟨by decide, by decide⟩ ?_
          refine V.iret (pc := 23) (z := (-3)) dX7_restore_23 rfl ?_
          have hA : aRes (σ, m, hi 5, im) 1 = -3 := by
            unfold aRes
            try dsimp only [gσ, gm, gg, gi]
            refine (if_neg (by first | omega | assumption)).trans ?_
            refine (if_pos hτ).trans ?_
            rfl
          rw [hA] at hq
          have hN : nRes (σ, m, hi 5, im) 1 = (σ, m, hi 5, im) := by
            unfold nRes
            try dsimp only [gσ, gm, gg, gi]
            refine (if_neg (by first | omega | assumption)).trans ?_
            show (match im 1 with | none => (σ, m, hi 5, im) | some τ => (τ, m, hi 5, im)) = _
            rw [hτ]
          rw [hN] at hq
          exact hq _ _ (by repeat (first | exact fr0 | refine fr1 (by decide) ?_ | refine fr2 (by decide) ?_ | refine fr3 (by decide) ?_ | refine fr4 (by decide) ?_)) hR
    · skip
      refine V.bipush (pc := 9) (z := (-2)) dX7_restore_9 (by decide +kernel) ⟨by decide, by decide⟩ ?_
      refine V.iret (pc := 11) (z := (-2)) dX7_restore_11 rfl ?_
      have hA : aRes (σ, m, hi 5, im) n = -2 := by
        unfold aRes
        try dsimp only [gσ, gm, gg, gi]
        refine (if_pos (by first | omega | assumption)).trans ?_
        rfl
      rw [hA] at hq
      have hN : nRes (σ, m, hi 5, im) n = (σ, m, hi 5, im) := by
        unfold nRes
        try dsimp only [gσ, gm, gg, gi]
        refine (if_pos (by first | omega | assumption)).trans ?_
        rfl
      rw [hN] at hq
      exact hq _ _ (by repeat (first | exact fr0 | refine fr1 (by decide) ?_ | refine fr2 (by decide) ?_ | refine fr3 (by decide) ?_ | refine fr4 (by decide) ?_)) hR

set_option maxRecDepth 100000 in
theorem c_X7_told (hi hl : HI) (σ : SG) (m : Nat) (g : Nat → Int) (im : Nat → Option SG) (hR : RC hi hl (σ, m, g, im)) (w : Int) (hw : -2147483648 ≤ w ∧ w < 2147483648) (Q : QT) (hq : ∀ hi' hl' : HI, FrC hi hl hi' hl' → RC hi' hl' (σ, m, g, im) → Q (some (vI (aTold (σ, m, g, im) w))) KW hi' hl') : Con eX7_told [vR 0, vI w] KW hi hl Q := by
  refine Con.ofV (by decide +kernel) (Nat.le_of_ble_eq_true rfl) ?_
  show V eX7_told none KW 0 [(0, vR 0), (1, vI w)] [] hi hl 0 0 Q
  obtain ⟨hT, hC, ⟨hm, hm2, hg5, hgr⟩, ⟨k0, k1, k2, k3⟩, hfr, hwo⟩ := RC_o hR
  subst hg5
  have hwf := hC.1
  have hn16 := hwf.2.2.1
  have hbg := hwf.2.2.2.2.1
  have hr10 : w32 (w - 10) = (w - 10 + 2147483648) % 4294967296 - 2147483648 := rfl
  have hr20 : w32 (w - 20) = (w - 20 + 2147483648) % 4294967296 - 2147483648 := rfl
  refine V.iload_n (pc := 0) 1 dX7_told_0 rfl ?_
  refine V.bipush (pc := 1) (z := 10) dX7_told_1 (by decide +kernel) ⟨by decide, by decide⟩ ?_
  refine V.isub (pc := 3) ((w32 (w - 10))) dX7_told_3 rfl ?_
  refine V.callS (pc := 4) (e1 := eX7_isBird) 1 [vI (w32 (w - 10))] [] mfX7_isBird slX7_isBird mlX7_80 dX7_told_4 rfl rfl (Nat.le_of_ble_eq_true rfl) ⟨by decide, by decide, by decide, by decide⟩ ?_
  refine c_X7_isBird KW hi hl (w32 (w - 10)) _ (fun hb => ?_) (fun hb => ?_)
  · skip
    refine V.qI (pc := 4) rfl rfl ?_
    refine V.if_eq (pc := 7) 23 dX7_told_7 (by decide) (fun hc => by exact absurd hc (by decide)) (fun h7 => ?_)
    obtain ⟨n, rfl⟩ : ∃ n : Nat, w = (n : Int) := ⟨w.toNat, by omega⟩
    refine V.aload_n (pc := 10) 0 dX7_told_10 rfl ?_
    refine V.gr (pc := 11) 7 3 10 flX7_33 dX7_told_11 (kS_0) (by decide) (by decide) rfl (kR_0_3) ?_
    refine V.gr (pc := 14) 0 0 11 flX7_84 dX7_told_14 (kS_10) (by decide) (by decide) rfl (kR_10_0) ?_
    refine V.iload_n (pc := 17) 1 dX7_told_17 rfl ?_
    refine V.bipush (pc := 18) (z := 10) dX7_told_18 (by decide +kernel) ⟨by decide, by decide⟩ ?_
    refine V.isub (pc := 20) ((((n - 10) : Nat) : Int)) dX7_told_20 (subN (a := n) (b := 10) (by omega) (by omega)) ?_
    refine V.ia (pc := 21) (len := 6) (n - 10) ((so σ (n - 10) : Nat) : Int) dX7_told_21 (kS_11) (rfl) (by omega) (hC.2.1 _ (by omega)) ?_
    refine V.iret (pc := 22) (z := ((so σ (n - 10) : Nat) : Int)) dX7_told_22 rfl ?_
    have hA : aTold (σ, m, hi 5, im) (n : Int) = (so σ (n - 10) : Nat) := by
      unfold aTold
      try dsimp only [gσ, gm, gg, gi]
      refine (if_pos (by first | omega | assumption)).trans ?_
      show ((so σ ((n : Int) - 10).toNat : Nat) : Int) = _
      rw [show ((n : Int) - 10).toNat = n - 10 by omega]
    rw [hA] at hq
    exact hq _ _ (by repeat (first | exact fr0 | refine fr1 (by decide) ?_ | refine fr2 (by decide) ?_ | refine fr3 (by decide) ?_ | refine fr4 (by decide) ?_)) hR
  · skip
    refine V.qI (pc := 4) rfl rfl ?_
    refine V.if_eq (pc := 7) 23 dX7_told_7 (by decide) (fun h7 => ?_) (fun hc => by exact absurd hc (by decide))
    refine V.iload_n (pc := 23) 1 dX7_told_23 rfl ?_
    refine V.bipush (pc := 24) (z := 20) dX7_told_24 (by decide +kernel) ⟨by decide, by decide⟩ ?_
    refine V.isub (pc := 26) ((w32 (w - 20))) dX7_told_26 rfl ?_
    refine V.callS (pc := 27) (e1 := eX7_isBird) 1 [vI (w32 (w - 20))] [] mfX7_isBird slX7_isBird mlX7_80 dX7_told_27 rfl rfl (Nat.le_of_ble_eq_true rfl) ⟨by decide, by decide, by decide, by decide⟩ ?_
    refine c_X7_isBird KW hi hl (w32 (w - 20)) _ (fun hb => ?_) (fun hb => ?_)
    · skip
      refine V.qI (pc := 27) rfl rfl ?_
      refine V.if_eq (pc := 30) 50 dX7_told_30 (by decide) (fun hc => by exact absurd hc (by decide)) (fun h30 => ?_)
      obtain ⟨n, rfl⟩ : ∃ n : Nat, w = (n : Int) := ⟨w.toNat, by omega⟩
      refine V.aload_n (pc := 33) 0 dX7_told_33 rfl ?_
      refine V.gr (pc := 34) 7 3 10 flX7_33 dX7_told_34 (kS_0) (by decide) (by decide) rfl (kR_0_3) ?_
      refine V.gr (pc := 37) 0 1 12 flX7_155 dX7_told_37 (kS_10) (by decide) (by decide) rfl (kR_10_1) ?_
      refine V.iload_n (pc := 40) 1 dX7_told_40 rfl ?_
      refine V.bipush (pc := 41) (z := 20) dX7_told_41 (by decide +kernel) ⟨by decide, by decide⟩ ?_
      refine V.isub (pc := 43) ((((n - 20) : Nat) : Int)) dX7_told_43 (subN (a := n) (b := 20) (by omega) (by omega)) ?_
      refine V.ia (pc := 44) (len := 6) (n - 20) (encC (te σ (n - 20))) dX7_told_44 (kS_12) (rfl) (by omega) (hC.2.2.1 _ (by omega)) ?_
      refine V.iconst (pc := 45) (z := (-1)) dX7_told_45 rfl ⟨by decide, by decide⟩ ?_
      refine V.callS (pc := 46) (e1 := eX7_wordOf) 2 [vI (encC (te σ (n - 20))), vI (-1)] [] mfX7_wordOf slX7_wordOf mlX7_152 dX7_told_46 rfl rfl (Nat.le_of_ble_eq_true rfl) ⟨by decide, by decide, by decide, by decide⟩ ?_
      refine c_X7_wordOf KW hi hl (encC (te σ (n - 20))) (-1) (encC_t hwf (by omega)) _ ?_
      refine V.qI (pc := 46) rfl rfl ?_
      refine V.iret (pc := 49) (z := (wordO (encC (te σ (n - 20))) (-1))) dX7_told_49 rfl ?_
      have hA : aTold (σ, m, hi 5, im) (n : Int) = wordO (encC (te σ (n - 20))) (-1) := by
        unfold aTold
        try dsimp only [gσ, gm, gg, gi]
        refine (if_neg (by first | omega | assumption)).trans ?_
        refine (if_pos (by first | omega | assumption)).trans ?_
        show wordO (encC (te σ ((n : Int) - 20).toNat)) (-1) = _
        rw [show ((n : Int) - 20).toNat = n - 20 by omega]
      rw [hA] at hq
      exact hq _ _ (by repeat (first | exact fr0 | refine fr1 (by decide) ?_ | refine fr2 (by decide) ?_ | refine fr3 (by decide) ?_ | refine fr4 (by decide) ?_)) hR
    · skip
      refine V.qI (pc := 27) rfl rfl ?_
      refine V.if_eq (pc := 30) 50 dX7_told_30 (by decide) (fun h30 => ?_) (fun hc => by exact absurd hc (by decide))
      refine V.iload_n (pc := 50) 1 dX7_told_50 rfl ?_
      by_cases hts51 : w < 0 ∨ 5 < w
      · refine V.tabOut (pc := 51) 163 dX7_told_51 hts51 (by decide) ?_
        refine V.bipush (pc := 163) (z := (-2)) dX7_told_163 (by decide +kernel) ⟨by decide, by decide⟩ ?_
        refine V.iret (pc := 165) (z := (-2)) dX7_told_165 rfl ?_
        have hA : aTold (σ, m, hi 5, im) w = -2 := by
          unfold aTold
          try dsimp only [gσ, gm, gg, gi]
          refine (if_neg (by first | omega | assumption)).trans ?_
          refine (if_neg (by first | omega | assumption)).trans ?_
          refine (if_neg (by first | omega | assumption)).trans ?_
          refine (if_neg (by first | omega | assumption)).trans ?_
          refine (if_neg (by first | omega | assumption)).trans ?_
          refine (if_neg (by first | omega | assumption)).trans ?_
          refine (if_neg (by first | omega | assumption)).trans ?_
          refine (if_neg (by first | omega | assumption)).trans ?_
          rfl
        rw [hA] at hq
        exact hq _ _ (by repeat (first | exact fr0 | refine fr1 (by decide) ?_ | refine fr2 (by decide) ?_ | refine fr3 (by decide) ?_ | refine fr4 (by decide) ?_)) hR
      · have htr51 : w = 0 ∨ w = 1 ∨ w = 2 ∨ w = 3 ∨ w = 4 ∨ w = 5 := by omega
        rcases htr51 with hc51 | hc51 | hc51 | hc51 | hc51 | hc51
        · refine V.tabIn (pc := 51) 0 88 dX7_told_51 (by omega) (by omega) rfl (by decide) ?_
          refine V.aload_n (pc := 88) 0 dX7_told_88 rfl ?_
          refine V.gr (pc := 89) 7 1 4 flX7_19 dX7_told_89 (kS_0) (by decide) (by decide) rfl (kR_0_1) ?_
          refine V.gi (pc := 92) 3 1 ((m : Nat) : Int) flX7_93 dX7_told_92 (kS_4) (by decide) (by decide) rfl (hm) ?_
          refine V.iret (pc := 95) (z := ((m : Nat) : Int)) dX7_told_95 rfl ?_
          have hA : aTold (σ, m, hi 5, im) w = (m : Nat) := by
            unfold aTold
            try dsimp only [gσ, gm, gg, gi]
            refine (if_neg (by first | omega | assumption)).trans ?_
            refine (if_neg (by first | omega | assumption)).trans ?_
            refine (if_pos (by first | omega | assumption)).trans ?_
            rfl
          rw [hA] at hq
          exact hq _ _ (by repeat (first | exact fr0 | refine fr1 (by decide) ?_ | refine fr2 (by decide) ?_ | refine fr3 (by decide) ?_ | refine fr4 (by decide) ?_)) hR
        · refine V.tabIn (pc := 51) 1 96 dX7_told_51 (by omega) (by omega) rfl (by decide) ?_
          refine V.aload_n (pc := 96) 0 dX7_told_96 rfl ?_
          refine V.gr (pc := 97) 7 3 10 flX7_33 dX7_told_97 (kS_0) (by decide) (by decide) rfl (kR_0_3) ?_
          refine V.gr (pc := 100) 0 2 13 flX7_105 dX7_told_100 (kS_10) (by decide) (by decide) rfl (kR_10_2) ?_
          refine V.gi (pc := 103) 1 3 ((nn σ : Nat) : Int) flX7_112 dX7_told_103 (kS_13) (by decide) (by decide) rfl (hC.2.2.2.1) ?_
          refine V.iret (pc := 106) (z := ((nn σ : Nat) : Int)) dX7_told_106 rfl ?_
          have hA : aTold (σ, m, hi 5, im) w = (nn σ : Nat) := by
            unfold aTold
            try dsimp only [gσ, gm, gg, gi]
            refine (if_neg (by first | omega | assumption)).trans ?_
            refine (if_neg (by first | omega | assumption)).trans ?_
            refine (if_neg (by first | omega | assumption)).trans ?_
            refine (if_pos (by first | omega | assumption)).trans ?_
            rfl
          rw [hA] at hq
          exact hq _ _ (by repeat (first | exact fr0 | refine fr1 (by decide) ?_ | refine fr2 (by decide) ?_ | refine fr3 (by decide) ?_ | refine fr4 (by decide) ?_)) hR
        · refine V.tabIn (pc := 51) 2 107 dX7_told_51 (by omega) (by omega) rfl (by decide) ?_
          refine V.aload_n (pc := 107) 0 dX7_told_107 rfl ?_
          refine V.gr (pc := 108) 7 3 10 flX7_33 dX7_told_108 (kS_0) (by decide) (by decide) rfl (kR_0_3) ?_
          refine V.gi (pc := 111) 0 3 ((bg σ : Nat) : Int) flX7_146 dX7_told_111 (kS_10) (by decide) (by decide) rfl (hC.2.2.2.2.2.1) ?_
          refine V.callS (pc := 114) (e1 := eX7_lengthOf) 1 [vI ((bg σ : Nat) : Int)] [] mfX7_lengthOf slX7_lengthOf mlX7_142 dX7_told_114 rfl rfl (Nat.le_of_ble_eq_true rfl) ⟨by decide, by decide, by decide, by decide⟩ ?_
          refine c_X7_lengthOf KW hi hl (bg σ) (by omega) _ ?_
          refine V.qI (pc := 114) rfl rfl ?_
          refine V.iret (pc := 117) (z := ((L3 (bg σ) : Nat) : Int)) dX7_told_117 rfl ?_
          have hA : aTold (σ, m, hi 5, im) w = (L3 (bg σ) : Nat) := by
            unfold aTold
            try dsimp only [gσ, gm, gg, gi]
            refine (if_neg (by first | omega | assumption)).trans ?_
            refine (if_neg (by first | omega | assumption)).trans ?_
            refine (if_neg (by first | omega | assumption)).trans ?_
            refine (if_neg (by first | omega | assumption)).trans ?_
            refine (if_pos (by first | omega | assumption)).trans ?_
            rfl
          rw [hA] at hq
          exact hq _ _ (by repeat (first | exact fr0 | refine fr1 (by decide) ?_ | refine fr2 (by decide) ?_ | refine fr3 (by decide) ?_ | refine fr4 (by decide) ?_)) hR
        · refine V.tabIn (pc := 51) 3 118 dX7_told_51 (by omega) (by omega) rfl (by decide) ?_
          refine V.aload_n (pc := 118) 0 dX7_told_118 rfl ?_
          refine V.gr (pc := 119) 7 3 10 flX7_33 dX7_told_119 (kS_0) (by decide) (by decide) rfl (kR_0_3) ?_
          refine V.gi (pc := 122) 0 4 ((ra σ : Nat) : Int) flX7_209 dX7_told_122 (kS_10) (by decide) (by decide) rfl (hC.2.2.2.2.2.2) ?_
          refine V.iret (pc := 125) (z := ((ra σ : Nat) : Int)) dX7_told_125 rfl ?_
          have hA : aTold (σ, m, hi 5, im) w = (ra σ : Nat) := by
            unfold aTold
            try dsimp only [gσ, gm, gg, gi]
            refine (if_neg (by first | omega | assumption)).trans ?_
            refine (if_neg (by first | omega | assumption)).trans ?_
            refine (if_neg (by first | omega | assumption)).trans ?_
            refine (if_neg (by first | omega | assumption)).trans ?_
            refine (if_neg (by first | omega | assumption)).trans ?_
            refine (if_pos (by first | omega | assumption)).trans ?_
            rfl
          rw [hA] at hq
          exact hq _ _ (by repeat (first | exact fr0 | refine fr1 (by decide) ?_ | refine fr2 (by decide) ?_ | refine fr3 (by decide) ?_ | refine fr4 (by decide) ?_)) hR
        · refine V.tabIn (pc := 51) 4 126 dX7_told_51 (by omega) (by omega) rfl (by decide) ?_
          refine V.aload_n (pc := 126) 0 dX7_told_126 rfl ?_
          refine V.gr (pc := 127) 7 3 10 flX7_33 dX7_told_127 (kS_0) (by decide) (by decide) rfl (kR_0_3) ?_
          refine V.gr (pc := 130) 0 1 12 flX7_155 dX7_told_130 (kS_10) (by decide) (by decide) rfl (kR_10_1) ?_
          refine V.callS (pc := 133) (e1 := eX7_birdsWithSaying) 1 [vR 12] [] mfX7_birdsWithSaying slX7_birdsWithSaying mlX7_227 dX7_told_133 rfl rfl (Nat.le_of_ble_eq_true rfl) ⟨by decide, by decide, by decide, by decide⟩ ?_
          refine c_X7_birdsWithSaying KW hi hl 12 (kS_12) _ ?_
          refine V.qI (pc := 133) rfl rfl ?_
          refine V.top (v' := vI ((twF σ : Nat) : Int)) (congrArg (fun x : Nat => vI (x : Int)) (bw_congr (fun b hb => hC.2.2.1 b hb))) ?_
          refine V.iret (pc := 136) (z := ((twF σ : Nat) : Int)) dX7_told_136 rfl ?_
          have hA : aTold (σ, m, hi 5, im) w = (twF σ : Nat) := by
            unfold aTold
            try dsimp only [gσ, gm, gg, gi]
            refine (if_neg (by first | omega | assumption)).trans ?_
            refine (if_neg (by first | omega | assumption)).trans ?_
            refine (if_neg (by first | omega | assumption)).trans ?_
            refine (if_neg (by first | omega | assumption)).trans ?_
            refine (if_neg (by first | omega | assumption)).trans ?_
            refine (if_neg (by first | omega | assumption)).trans ?_
            refine (if_pos (by first | omega | assumption)).trans ?_
            rfl
          rw [hA] at hq
          exact hq _ _ (by repeat (first | exact fr0 | refine fr1 (by decide) ?_ | refine fr2 (by decide) ?_ | refine fr3 (by decide) ?_ | refine fr4 (by decide) ?_)) hR
        · refine V.tabIn (pc := 51) 5 137 dX7_told_51 (by omega) (by omega) rfl (by decide) ?_
          refine V.aload_n (pc := 137) 0 dX7_told_137 rfl ?_
          refine V.gr (pc := 138) 7 6 33 flX7_48 dX7_told_138 (kS_0) (by decide) (by decide) rfl (kR_0_6) ?_
          refine V.aload_n (pc := 141) 0 dX7_told_141 rfl ?_
          refine V.gr (pc := 142) 7 3 10 flX7_33 dX7_told_142 (kS_0) (by decide) (by decide) rfl (kR_0_3) ?_
          refine V.aload_n (pc := 145) 0 dX7_told_145 rfl ?_
          refine V.gr (pc := 146) 7 0 1 flX7_10 dX7_told_146 (kS_0) (by decide) (by decide) rfl (kR_0_0) ?_
          refine V.callV (pc := 149) (e1 := eX6_throughDays) (o := 33) (c := 6) 2 [vR 10, vR 1] [] mfX6_throughDays slX6_throughDays mlX7_124 dX7_told_149 (kS_33) (by decide) rfl rfl rfl (Nat.le_of_ble_eq_true rfl) ⟨by decide, by decide, by decide, by decide⟩ ?_
          refine c_X6_throughDays hi hl hT σ hC _ (fun g33 g34 g35 hWD => ?_)
          refine V.qV (pc := 149) rfl rfl ?_
          refine V.hieq (hi' := (upR (upR (upR hi 35 g35) 34 g34) 33 g33)) ((upR_c ((upR_c r0).trans (rs (by decide) r0))).trans (rs (by decide) (rs (by decide) r0))) ?_
          refine V.aload_n (pc := 152) 0 dX7_told_152 rfl ?_
          refine V.gr (pc := 153) 7 6 33 flX7_48 dX7_told_153 (kS_0) (by decide) (by decide) rfl (kR_0_6) ?_
          refine V.gr (pc := 156) 6 0 34 flX7_149 dX7_told_156 (kS_33) (by decide) (by decide) rfl (kR_33_0) ?_
          refine V.callS (pc := 159) (e1 := eX7_birdsWithSaying) 1 [vR 34] [] mfX7_birdsWithSaying slX7_birdsWithSaying mlX7_227 dX7_told_159 rfl rfl (Nat.le_of_ble_eq_true rfl) ⟨by decide, by decide, by decide, by decide⟩ ?_
          refine c_X7_birdsWithSaying KW (upR (upR (upR hi 35 g35) 34 g34) 33 g33) hl 34 (kS_34) _ ?_
          refine V.qI (pc := 159) rfl rfl ?_
          refine V.top (v' := vI ((hrF σ : Nat) : Int)) (congrArg (fun x : Nat => vI (x : Int)) (bw_congr (fun b hb => hWD.2.1 b hb))) ?_
          refine V.iret (pc := 162) (z := ((hrF σ : Nat) : Int)) dX7_told_162 rfl ?_
          have hA : aTold (σ, m, hi 5, im) w = (hrF σ : Nat) := by
            unfold aTold
            try dsimp only [gσ, gm, gg, gi]
            refine (if_neg (by first | omega | assumption)).trans ?_
            refine (if_neg (by first | omega | assumption)).trans ?_
            refine (if_neg (by first | omega | assumption)).trans ?_
            refine (if_neg (by first | omega | assumption)).trans ?_
            refine (if_neg (by first | omega | assumption)).trans ?_
            refine (if_neg (by first | omega | assumption)).trans ?_
            refine (if_neg (by first | omega | assumption)).trans ?_
            refine (if_pos (by first | omega | assumption)).trans ?_
            rfl
          rw [hA] at hq
          exact hq _ _ (by repeat (first | exact fr0 | refine fr1 (by decide) ?_ | refine fr2 (by decide) ?_ | refine fr3 (by decide) ?_ | refine fr4 (by decide) ?_)) (RC_i (hT) (hC) (hm) (hm2) (rfl) (hgr) (k0) (k1) (k2) (k3) (hfr) (hwo))

set_option maxRecDepth 100000 in
theorem c_X7_odds (hi hl : HI) (σ : SG) (m : Nat) (g : Nat → Int) (im : Nat → Option SG) (hR : RC hi hl (σ, m, g, im)) (p : Int) (Q : QT) (hq : ∀ hi' hl' : HI, FrC hi hl hi' hl' → RC hi' hl' (σ, m, g, im) → Q (some (vL (aOdds (σ, m, g, im) p))) KW hi' hl') : Con eX7_odds [vR 0, vI p] KW hi hl Q := by
  refine Con.ofV (by decide +kernel) (Nat.le_of_ble_eq_true rfl) ?_
  show V eX7_odds none KW 0 [(0, vR 0), (1, vI p)] [] hi hl 0 0 Q
  obtain ⟨hT, hC, ⟨hm, hm2, hg5, hgr⟩, ⟨k0, k1, k2, k3⟩, hfr, hwo⟩ := RC_o hR
  subst hg5
  have hwf := hC.1
  have hn16 := hwf.2.2.1
  have hbg := hwf.2.2.2.2.1
  refine V.iload_n (pc := 0) 1 dX7_odds_0 rfl ?_
  refine V.if_lt (pc := 1) 9 dX7_odds_1 (by decide) (fun h1 => ?_) (fun h1 => ?_)
  · skip
    refine V.ldc2 (pc := 9) (z := (-1000000000000000002)) clX7_179 dX7_odds_9 ⟨by decide, by decide⟩ ?_
    refine V.lret (pc := 12) (z := (-1000000000000000002)) dX7_odds_12 rfl ?_
    have hA : aOdds (σ, m, hi 5, im) p = -1000000000000000002 := by
      unfold aOdds
      try dsimp only [gσ, gm, gg, gi]
      refine (if_pos (by first | omega | assumption)).trans ?_
      rfl
    rw [hA] at hq
    exact hq _ _ (by repeat (first | exact fr0 | refine fr1 (by decide) ?_ | refine fr2 (by decide) ?_ | refine fr3 (by decide) ?_ | refine fr4 (by decide) ?_)) hR
  · skip
    refine V.iload_n (pc := 4) 1 dX7_odds_4 rfl ?_
    refine V.iconst (pc := 5) (z := 1) dX7_odds_5 rfl ⟨by decide, by decide⟩ ?_
    refine V.icmp_le (pc := 6) 13 dX7_odds_6 (by decide) (fun h6 => ?_) (fun h6 => ?_)
    · skip
      refine V.aload_n (pc := 13) 0 dX7_odds_13 rfl ?_
      refine V.callV (pc := 14) (e1 := eX7_reckonHistories) (o := 0) (c := 7) 0 [] [] mfX7_reckonHistories slX7_reckonHistories mlX7_158 dX7_odds_14 (kS_0) (by decide) rfl rfl rfl (Nat.le_of_ble_eq_true rfl) ⟨by decide, by decide, by decide, by decide⟩ ?_
      refine c_X7_reckonHistories hi hl σ m _ im hR _ (fun hi2 hl2 hfr2 hR2 hHQ2 => ?_)
      refine V.qV (pc := 14) rfl rfl ?_
      have hq2 := HQ_use hHQ2
      have hmb := mX_b hwf
      obtain ⟨_, _, ⟨hmb2, _, hg5b, _⟩, _, _, _⟩ := RC_o hR2
      refine V.aload_n (pc := 17) 0 dX7_odds_17 rfl ?_
      refine V.gr (pc := 18) 7 7 36 flX7_55 dX7_odds_18 (kS_0) (by decide) (by decide) rfl (kR_0_7) ?_
      refine V.gi (pc := 21) 2 5 (mX σ) flX7_164 dX7_odds_21 (kS_36) (by decide) (by decide) rfl (hq2.2.1) ?_
      refine V.sipush (pc := 24) (z := 1000) dX7_odds_24 (by decide +kernel) ⟨by decide, by decide⟩ ?_
      refine V.icmp_ne (pc := 27) 34 dX7_odds_27 (by decide) (fun h27 => ?_) (fun h27 => ?_)
      · obtain ⟨q6, q7, q8⟩ := hq2.2.2 (by omega)
        obtain ⟨op1, op2, op3⟩ := odds_pos hwf (show mX σ < 1000 by omega)
        refine V.aload_n (pc := 34) 0 dX7_odds_34 rfl ?_
        refine V.gr (pc := 35) 7 1 4 flX7_19 dX7_odds_35 (kS_0) (by decide) (by decide) rfl (kR_0_1) ?_
        refine V.callV (pc := 38) (e1 := eX3_readSaying) (o := 4) (c := 3) 0 [] [] mfX3_readSaying slX3_readSaying mlX7_131 dX7_odds_38 (kS_4) (by decide) rfl rfl rfl (Nat.le_of_ble_eq_true rfl) ⟨by decide, by decide, by decide, by decide⟩ ?_
        refine c_X3_readSaying hi2 hl2 m hmb2 hm2 _ (fun hsf => ?_) (fun hsf => ?_)
        · have hsf : sayF (hi2 5) m ≠ -6 := hsf
          refine V.qI (pc := 38) rfl rfl ?_
          refine V.istore_n (pc := 41) (i := 2) dX7_odds_41 rfl (by decide) (ls' := [(2, vI (-1)), (0, vR 0), (1, vI p)]) rfl ?_
          refine V.iload_n (pc := 42) 0 dX7_odds_42 rfl ?_
          refine V.iconst (pc := 43) (z := (-1)) dX7_odds_43 rfl ⟨by decide, by decide⟩ ?_
          refine V.icmp_ne (pc := 44) 51 dX7_odds_44 (by decide) (fun hc => by exact absurd hc (by decide)) (fun h44 => ?_)
          refine V.ldc2 (pc := 47) (z := (-1000000000000000005)) clX7_173 dX7_odds_47 ⟨by decide, by decide⟩ ?_
          refine V.lret (pc := 50) (z := (-1000000000000000005)) dX7_odds_50 rfl ?_
          have hpv : padV (σ, m, hi 5, im) = -1 := padV_n (by rw [← hg5b]; exact hsf)
          have hA : aOdds (σ, m, hi 5, im) p = -1000000000000000005 := by
            unfold aOdds
            try dsimp only [gσ, gm, gg, gi]
            refine (if_neg (by first | omega | assumption)).trans ?_
            refine (if_neg (by first | omega | assumption)).trans ?_
            refine (if_pos (by first | omega | assumption)).trans ?_
            rfl
          rw [hA] at hq
          exact hq _ _ (by repeat (first | exact fr0 | exact hfr2 | refine fr1 (by decide) ?_ | refine fr2 (by decide) ?_ | refine fr3 (by decide) ?_ | refine fr4 (by decide) ?_)) hR2
        · have hsf : sayF (hi2 5) m = -6 := hsf
          have hsl := padS_lt hsf
          refine V.qI (pc := 38) rfl rfl ?_
          refine V.istore_n (pc := 41) (i := 2) dX7_odds_41 rfl (by decide) (ls' := [(2, vI ((f3 m + sayV (hi2 5) m : Nat) : Int)), (0, vR 0), (1, vI p)]) rfl ?_
          refine V.iload_n (pc := 42) 0 dX7_odds_42 rfl ?_
          refine V.iconst (pc := 43) (z := (-1)) dX7_odds_43 rfl ⟨by decide, by decide⟩ ?_
          refine V.icmp_ne (pc := 44) 51 dX7_odds_44 (by decide) (fun h44 => ?_) (fun hc => by exfalso; omega)
          refine V.aload_n (pc := 51) 1 dX7_odds_51 rfl ?_
          refine V.gr (pc := 52) 7 7 36 flX7_55 dX7_odds_52 (kS_0) (by decide) (by decide) rfl (kR_0_7) ?_
          refine V.iload_n (pc := 55) 0 dX7_odds_55 rfl ?_
          refine V.callV (pc := 56) (e1 := eX2_waysOf) (o := 36) (c := 2) 1 [vI ((f3 m + sayV (hi2 5) m : Nat) : Int)] [] mfX2_waysOf slX2_waysOf mlX7_175 dX7_odds_56 (kS_36) (by decide) rfl rfl rfl (Nat.le_of_ble_eq_true rfl) ⟨by decide, by decide, by decide, by decide⟩ ?_
          refine c_X2_waysOf_36 hi2 hl2 _ _ rfl rfl (f3 m + sayV (hi2 5) m) (by omega) _ ?_
          refine V.qJ (pc := 56) rfl rfl ?_
          refine V.top (v' := vL (((wX σ (f3 m + sayV (hi2 5) m)).toNat : Nat) : Int)) (congrArg vL ((show _ = wX σ (f3 m + sayV (hi2 5) m) by unfold wX; rw [(hq2.1 _ hsl).1, (hq2.1 _ hsl).2, hq2.2.1]).trans (Int.toNat_of_nonneg (op3 _ hsl).1).symm)) ?_
          have ow := op3 (f3 m + sayV (hi2 5) m) hsl
          refine V.lstore_n (pc := 59) (i := 3) dX7_odds_59 rfl (by decide) (ls' := [(3, vL (((wX σ (f3 m + sayV (hi2 5) m)).toNat : Nat) : Int)), (2, vI ((f3 m + sayV (hi2 5) m : Nat) : Int)), (0, vR 0), (1, vI p)]) rfl ?_
          refine V.lload_n (pc := 60) 0 dX7_odds_60 rfl ?_
          refine V.aload_n (pc := 61) 2 dX7_odds_61 rfl ?_
          refine V.gr (pc := 62) 7 7 36 flX7_55 dX7_odds_62 (kS_0) (by decide) (by decide) rfl (kR_0_7) ?_
          refine V.gj (pc := 65) 2 8 ((((tX σ).2.2.toNat) : Nat) : Int) flX7_183 dX7_odds_65 (kS_36) (by decide) (by decide) rfl (q8.trans (Int.toNat_of_nonneg (by omega)).symm) ?_
          refine V.callS (pc := 68) (e1 := eX7_commonDivisor) 2 [vL (((wX σ (f3 m + sayV (hi2 5) m)).toNat : Nat) : Int), vL ((((tX σ).2.2.toNat) : Nat) : Int)] [] mfX7_commonDivisor slX7_commonDivisor mlX7_187 dX7_odds_68 rfl rfl (Nat.le_of_ble_eq_true rfl) ⟨by decide, by decide, by decide, by decide⟩ ?_
          refine c_X7_commonDivisor KW hi2 hl2 ((wX σ (f3 m + sayV (hi2 5) m)).toNat) ((tX σ).2.2.toNat) (by omega) (by omega) _ ?_
          refine V.qJ (pc := 68) rfl rfl ?_
          refine V.lstore (pc := 71) (i := 5) dX7_odds_71 (by decide) (ls' := [(5, vL ((Nat.gcd ((wX σ (f3 m + sayV (hi2 5) m)).toNat) ((tX σ).2.2.toNat) : Nat) : Int)), (3, vL (((wX σ (f3 m + sayV (hi2 5) m)).toNat : Nat) : Int)), (2, vI ((f3 m + sayV (hi2 5) m : Nat) : Int)), (0, vR 0), (1, vI p)]) rfl ?_
          have hgc : 1 ≤ Nat.gcd (wX σ (f3 m + sayV (hi2 5) m)).toNat (tX σ).2.2.toNat := Nat.gcd_pos_of_pos_right _ (by omega)
          have hgl : Nat.gcd (wX σ (f3 m + sayV (hi2 5) m)).toNat (tX σ).2.2.toNat ≤ (tX σ).2.2.toNat := Nat.gcd_le_right _ (by omega)
          have hd1 := Nat.div_le_self (wX σ (f3 m + sayV (hi2 5) m)).toNat (Nat.gcd (wX σ (f3 m + sayV (hi2 5) m)).toNat (tX σ).2.2.toNat)
          have hd2 := Nat.div_le_self (tX σ).2.2.toNat (Nat.gcd (wX σ (f3 m + sayV (hi2 5) m)).toNat (tX σ).2.2.toNat)
          refine V.lload (pc := 73) 0 dX7_odds_73 rfl ?_
          refine V.lconst (pc := 75) (z := 1) dX7_odds_75 (by decide +kernel) ⟨by decide, by decide⟩ ?_
          refine V.lcmp (pc := 76) dX7_odds_76 ?_
          refine V.if_ge (pc := 77) 84 dX7_odds_77 (by decide) (fun h77 => ?_) (fun hc => by exfalso; unfold lcmpI at hc; split at hc; { omega }; { split at hc <;> omega })
          refine V.iload_n (pc := 84) 4 dX7_odds_84 rfl ?_
          refine V.if_ne (pc := 85) 95 dX7_odds_85 (by decide) (fun h85 => ?_) (fun h85 => ?_)
          · skip
            refine V.aload_n (pc := 95) 3 dX7_odds_95 rfl ?_
            refine V.gr (pc := 96) 7 7 36 flX7_55 dX7_odds_96 (kS_0) (by decide) (by decide) rfl (kR_0_7) ?_
            refine V.gj (pc := 99) 2 8 ((((tX σ).2.2.toNat) : Nat) : Int) flX7_183 dX7_odds_99 (kS_36) (by decide) (by decide) rfl (q8.trans (Int.toNat_of_nonneg (by omega)).symm) ?_
            refine V.lload (pc := 102) 0 dX7_odds_102 rfl ?_
            refine V.ldiv (pc := 104) (((((tX σ).2.2.toNat) / (Nat.gcd ((wX σ (f3 m + sayV (hi2 5) m)).toNat) ((tX σ).2.2.toNat)) : Nat) : Int)) dX7_odds_104 (by omega) (dNL (a := ((tX σ).2.2.toNat)) (b := (Nat.gcd ((wX σ (f3 m + sayV (hi2 5) m)).toNat) ((tX σ).2.2.toNat))) (by omega) (by omega) (by omega)) (rL_n (by omega)) ?_
            refine V.lret (pc := 105) (z := ((((tX σ).2.2.toNat) / (Nat.gcd ((wX σ (f3 m + sayV (hi2 5) m)).toNat) ((tX σ).2.2.toNat)) : Nat) : Int)) dX7_odds_105 rfl ?_
            have hpv : padV (σ, m, hi 5, im) = (((f3 m + sayV (hi2 5) m) : Nat) : Int) := by rw [hg5b]; exact padV_y (by rw [← hg5b]; exact hsf)
            have hA : aOdds (σ, m, hi 5, im) p = (((tX σ).2.2.toNat / Nat.gcd (wX σ (f3 m + sayV (hi2 5) m)).toNat (tX σ).2.2.toNat : Nat) : Int) := by
              unfold aOdds
              try dsimp only [gσ, gm, gg, gi]
              rw [hpv]
              refine (if_neg (by first | omega | assumption)).trans ?_
              refine (if_neg (by first | omega | assumption)).trans ?_
              refine (if_neg (by first | omega | assumption)).trans ?_
              refine (if_neg (by first | omega | assumption)).trans ?_
              rfl
            rw [hA] at hq
            exact hq _ _ (by repeat (first | exact fr0 | exact hfr2 | refine fr1 (by decide) ?_ | refine fr2 (by decide) ?_ | refine fr3 (by decide) ?_ | refine fr4 (by decide) ?_)) hR2
          · skip
            refine V.lload_n (pc := 88) 1 dX7_odds_88 rfl ?_
            refine V.lload (pc := 89) 0 dX7_odds_89 rfl ?_
            refine V.ldiv (pc := 91) (((((wX σ (f3 m + sayV (hi2 5) m)).toNat) / (Nat.gcd ((wX σ (f3 m + sayV (hi2 5) m)).toNat) ((tX σ).2.2.toNat)) : Nat) : Int)) dX7_odds_91 (by omega) (dNL (a := ((wX σ (f3 m + sayV (hi2 5) m)).toNat)) (b := (Nat.gcd ((wX σ (f3 m + sayV (hi2 5) m)).toNat) ((tX σ).2.2.toNat))) (by omega) (by omega) (by omega)) (rL_n (by omega)) ?_
            refine V.goto (pc := 92) 105 dX7_odds_92 (by decide) ?_
            refine V.lret (pc := 105) (z := ((((wX σ (f3 m + sayV (hi2 5) m)).toNat) / (Nat.gcd ((wX σ (f3 m + sayV (hi2 5) m)).toNat) ((tX σ).2.2.toNat)) : Nat) : Int)) dX7_odds_105 rfl ?_
            have hpv : padV (σ, m, hi 5, im) = (((f3 m + sayV (hi2 5) m) : Nat) : Int) := by rw [hg5b]; exact padV_y (by rw [← hg5b]; exact hsf)
            have hA : aOdds (σ, m, hi 5, im) p = (((wX σ (f3 m + sayV (hi2 5) m)).toNat / Nat.gcd (wX σ (f3 m + sayV (hi2 5) m)).toNat (tX σ).2.2.toNat : Nat) : Int) := by
              unfold aOdds
              try dsimp only [gσ, gm, gg, gi]
              rw [hpv]
              refine (if_neg (by first | omega | assumption)).trans ?_
              refine (if_neg (by first | omega | assumption)).trans ?_
              refine (if_neg (by first | omega | assumption)).trans ?_
              refine (if_pos (by first | omega | assumption)).trans ?_
              rfl
            rw [hA] at hq
            exact hq _ _ (by repeat (first | exact fr0 | exact hfr2 | refine fr1 (by decide) ?_ | refine fr2 (by decide) ?_ | refine fr3 (by decide) ?_ | refine fr4 (by decide) ?_)) hR2
      · skip
        refine V.ldc2 (pc := 30) (z := (-1000000000000000003)) clX7_181 dX7_odds_30 ⟨by decide, by decide⟩ ?_
        refine V.lret (pc := 33) (z := (-1000000000000000003)) dX7_odds_33 rfl ?_
        have hA : aOdds (σ, m, hi 5, im) p = -1000000000000000003 := by
          unfold aOdds
          try dsimp only [gσ, gm, gg, gi]
          refine (if_neg (by first | omega | assumption)).trans ?_
          refine (if_pos (by first | omega | assumption)).trans ?_
          rfl
        rw [hA] at hq
        exact hq _ _ (by repeat (first | exact fr0 | exact hfr2 | refine fr1 (by decide) ?_ | refine fr2 (by decide) ?_ | refine fr3 (by decide) ?_ | refine fr4 (by decide) ?_)) hR2
    · skip
      refine V.ldc2 (pc := 9) (z := (-1000000000000000002)) clX7_179 dX7_odds_9 ⟨by decide, by decide⟩ ?_
      refine V.lret (pc := 12) (z := (-1000000000000000002)) dX7_odds_12 rfl ?_
      have hA : aOdds (σ, m, hi 5, im) p = -1000000000000000002 := by
        unfold aOdds
        try dsimp only [gσ, gm, gg, gi]
        refine (if_pos (by first | omega | assumption)).trans ?_
        rfl
      rw [hA] at hq
      exact hq _ _ (by repeat (first | exact fr0 | refine fr1 (by decide) ?_ | refine fr2 (by decide) ?_ | refine fr3 (by decide) ?_ | refine fr4 (by decide) ?_)) hR

