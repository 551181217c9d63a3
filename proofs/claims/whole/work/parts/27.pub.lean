set_option maxRecDepth 100000 in
theorem c_X7_forgetHistories (hi hl : HI) (Q : QT) (hq : Q none KW (upR hi 0 (updF (updF (hi 0) 11 0) 12 0)) hl) : Con eX7_forgetHistories [vR 0] KW hi hl Q := by
  refine Con.ofV (by decide +kernel) (Nat.le_of_ble_eq_true rfl) ?_
  show V eX7_forgetHistories none KW 0 [(0, vR 0)] [] hi hl 0 0 Q
  refine V.hieq (hi' := (upR hi 0 (hi 0))) (by rw [upR_id]) ?_
  refine V.aload_n (pc := 0) 0 dX7_forgetHistories_0 rfl ?_
  refine V.iconst (pc := 1) (z := 0) dX7_forgetHistories_1 rfl ⟨by decide, by decide⟩ ?_
  refine V.pz (pc := 2) (hi' := (upR hi 0 (updF (hi 0) 11 0))) 7 11 flX7_73 dX7_forgetHistories_2 (kS_0) (by decide) (by decide) rfl rfl (Or.inl rfl) u1 ?_
  refine V.aload_n (pc := 5) 0 dX7_forgetHistories_5 rfl ?_
  refine V.iconst (pc := 6) (z := 0) dX7_forgetHistories_6 rfl ⟨by decide, by decide⟩ ?_
  refine V.pz (pc := 7) (hi' := (upR hi 0 (updF (updF (hi 0) 11 0) 12 0))) 7 12 flX7_77 dX7_forgetHistories_7 (kS_0) (by decide) (by decide) rfl rfl (Or.inl rfl) u1 ?_
  refine V.vret (pc := 10) dX7_forgetHistories_10 rfl ?_
  exact hq

set_option maxRecDepth 100000 in
theorem c_X7_reckonHistories (hi hl : HI) (σ : SG) (m : Nat) (g : Nat → Int) (im : Nat → Option SG) (hR : RC hi hl (σ, m, g, im)) (Q : QT) (hq : ∀ hi' hl' : HI, FrC hi hl hi' hl' → RC hi' hl' (σ, m, g, im) → HQ (hS σ (-1)) (hi' 44) (hl' 52) (hi' 36) (hl' 36) → Q none KW hi' hl') : Con eX7_reckonHistories [vR 0] KW hi hl Q := by
  refine Con.ofV (by decide +kernel) (Nat.le_of_ble_eq_true rfl) ?_
  show V eX7_reckonHistories none KW 0 [(0, vR 0)] [] hi hl 0 0 Q
  obtain ⟨hT, hC, ⟨hm, hm2, hg5, hgr⟩, ⟨k0, k1, k2, k3⟩, hfr, hwo⟩ := RC_o hR
  subst hg5
  have hwf := hC.1
  have hn16 := hwf.2.2.1
  have hbg := hwf.2.2.2.2.1
  refine V.aload_n (pc := 0) 0 dX7_reckonHistories_0 rfl ?_
  refine V.gi (pc := 1) 7 11 (hi 0 11) flX7_73 dX7_reckonHistories_1 (kS_0) (by decide) (by decide) rfl (rfl) ?_
  refine V.if_eq (pc := 4) 8 dX7_reckonHistories_4 (by decide) (fun h4 => ?_) (fun h4 => ?_)
  · skip
    refine V.aload_n (pc := 8) 0 dX7_reckonHistories_8 rfl ?_
    refine V.gr (pc := 9) 7 6 33 flX7_48 dX7_reckonHistories_9 (kS_0) (by decide) (by decide) rfl (kR_0_6) ?_
    refine V.aload_n (pc := 12) 0 dX7_reckonHistories_12 rfl ?_
    refine V.gr (pc := 13) 7 3 10 flX7_33 dX7_reckonHistories_13 (kS_0) (by decide) (by decide) rfl (kR_0_3) ?_
    refine V.aload_n (pc := 16) 0 dX7_reckonHistories_16 rfl ?_
    refine V.gr (pc := 17) 7 0 1 flX7_10 dX7_reckonHistories_17 (kS_0) (by decide) (by decide) rfl (kR_0_0) ?_
    refine V.callV (pc := 20) (e1 := eX6_throughDays) (o := 33) (c := 6) 2 [vR 10, vR 1] [] mfX6_throughDays slX6_throughDays mlX7_124 dX7_reckonHistories_20 (kS_33) (by decide) rfl rfl rfl (Nat.le_of_ble_eq_true rfl) ⟨by decide, by decide, by decide, by decide⟩ ?_
    refine c_X6_throughDays hi hl hT σ hC _ (fun g33 g34 g35 hWD => ?_)
    refine V.qV (pc := 20) rfl rfl ?_
    refine V.hieq (hi' := (upR (upR (upR hi 35 g35) 34 g34) 33 g33)) ((upR_c ((upR_c r0).trans (rs (by decide) r0))).trans (rs (by decide) (rs (by decide) r0))) ?_
    refine V.aload_n (pc := 23) 0 dX7_reckonHistories_23 rfl ?_
    refine V.gr (pc := 24) 7 7 36 flX7_55 dX7_reckonHistories_24 (kS_0) (by decide) (by decide) rfl (kR_0_7) ?_
    refine V.aload_n (pc := 27) 0 dX7_reckonHistories_27 rfl ?_
    refine V.gr (pc := 28) 7 3 10 flX7_33 dX7_reckonHistories_28 (kS_0) (by decide) (by decide) rfl (kR_0_3) ?_
    refine V.aload_n (pc := 31) 0 dX7_reckonHistories_31 rfl ?_
    refine V.gr (pc := 32) 7 6 33 flX7_48 dX7_reckonHistories_32 (kS_0) (by decide) (by decide) rfl (kR_0_6) ?_
    refine V.gr (pc := 35) 6 1 35 flX7_128 dX7_reckonHistories_35 (kS_33) (by decide) (by decide) rfl (kR_33_1) ?_
    refine V.aload_n (pc := 38) 0 dX7_reckonHistories_38 rfl ?_
    refine V.gr (pc := 39) 7 0 1 flX7_10 dX7_reckonHistories_39 (kS_0) (by decide) (by decide) rfl (kR_0_0) ?_
    refine V.iconst (pc := 42) (z := (-1)) dX7_reckonHistories_42 rfl ⟨by decide, by decide⟩ ?_
    refine V.hieq (hi' := (upR (upR (blk (upR (upR (upR hi 35 g35) 34 g34) 33 g33) 38 (fun s => (upR (upR (upR hi 35 g35) 34 g34) 33 g33) (38 + s))) 53 ((upR (upR (upR hi 35 g35) 34 g34) 33 g33) 53)) 36 ((upR (upR (upR hi 35 g35) 34 g34) 33 g33) 36))) (by rw [blk_id, upR_id, upR_id]) ?_
    refine V.hleq (hl' := (upR (blk hl 46 (fun s => hl (46 + s))) 36 (hl 36))) (by rw [blk_id, upR_id]) ?_
    refine V.callV (pc := 43) (e1 := eX2_reckon) (o := 36) (c := 2) 4 [vR 10, vR 35, vR 1, vI (-1)] [] mfX2_reckon slX2_reckon mlX7_231 dX7_reckonHistories_43 (kS_36) (by decide) rfl rfl rfl (Nat.le_of_ble_eq_true rfl) ⟨by decide, by decide, by decide, by decide⟩ ?_
    refine c_X2_reckon_36 (upR (upR (upR hi 35 g35) 34 g34) 33 g33) hl _ _ _ _ _ hT σ hC (heardF σ) (fun j hj => hWD.2.2.1 j hj) (HOK_D hwf) (-1) _ (fun C' N' B' f' fl' hHQ => ?_)
    refine V.qV (pc := 43) rfl rfl ?_
    refine V.aload_n (pc := 46) 0 dX7_reckonHistories_46 rfl ?_
    refine V.iconst (pc := 47) (z := 1) dX7_reckonHistories_47 rfl ⟨by decide, by decide⟩ ?_
    refine V.pz (pc := 48) (hi' := (upR (upR (upR (blk (upR (upR (upR hi 35 g35) 34 g34) 33 g33) 38 C') 0 (updF ((upR (upR (upR hi 35 g35) 34 g34) 33 g33) 0) 11 1)) 53 (B')) 36 (f'))) 7 11 flX7_73 dX7_reckonHistories_48 (kS_0) (by decide) (by decide) rfl rfl (Or.inr rfl) (us (by decide) (us (by decide) u0)) ?_
    refine V.vret (pc := 51) dX7_reckonHistories_51 rfl ?_
    exact hq _ _ (by repeat (first | exact fr0 | refine fr1 (by decide) ?_ | refine fr2 (by decide) ?_ | refine fr3 (by decide) ?_ | refine fr4 (by decide) ?_)) (RC_i (hT) (hC) (hm) (hm2) (rfl) (hgr) (k0) (k1) (k2) (k3) (Or.inr ⟨rfl, hHQ⟩) (hwo)) hHQ
  · obtain ⟨hf1, hf2⟩ : hi 0 11 = 1 ∧ HQ (hS σ (-1)) (hi 44) (hl 52) (hi 36) (hl 36) := by rcases hfr with q | q; { exact absurd q h4 }; { exact q }
    refine V.vret (pc := 7) dX7_reckonHistories_7 rfl ?_
    exact hq _ _ fr0 hR hf2

set_option maxRecDepth 100000 in
theorem c_X7_reckonWithout (hi hl : HI) (σ : SG) (m : Nat) (g : Nat → Int) (im : Nat → Option SG) (hR : RC hi hl (σ, m, g, im)) (Q : QT) (hq : ∀ hi' hl' : HI, FrC hi hl hi' hl' → RC hi' hl' (σ, m, g, im) → (∀ b, b < 6 → hi' 72 b = fwF σ b) → Q none KW hi' hl') : Con eX7_reckonWithout [vR 0] KW hi hl Q := by
  refine Con.ofV (by decide +kernel) (Nat.le_of_ble_eq_true rfl) ?_
  show V eX7_reckonWithout none KW 0 [(0, vR 0)] [] hi hl 0 0 Q
  obtain ⟨hT, hC, ⟨hm, hm2, hg5, hgr⟩, ⟨k0, k1, k2, k3⟩, hfr, hwo⟩ := RC_o hR
  subst hg5
  have hwf := hC.1
  have hn16 := hwf.2.2.1
  have hbg := hwf.2.2.2.2.1
  refine V.aload_n (pc := 0) 0 dX7_reckonWithout_0 rfl ?_
  refine V.gi (pc := 1) 7 12 (hi 0 12) flX7_77 dX7_reckonWithout_1 (kS_0) (by decide) (by decide) rfl (rfl) ?_
  refine V.if_eq (pc := 4) 8 dX7_reckonWithout_4 (by decide) (fun h4 => ?_) (fun h4 => ?_)
  · skip
    refine V.aload_n (pc := 8) 0 dX7_reckonWithout_8 rfl ?_
    refine V.gr (pc := 9) 7 6 33 flX7_48 dX7_reckonWithout_9 (kS_0) (by decide) (by decide) rfl (kR_0_6) ?_
    refine V.aload_n (pc := 12) 0 dX7_reckonWithout_12 rfl ?_
    refine V.gr (pc := 13) 7 3 10 flX7_33 dX7_reckonWithout_13 (kS_0) (by decide) (by decide) rfl (kR_0_3) ?_
    refine V.aload_n (pc := 16) 0 dX7_reckonWithout_16 rfl ?_
    refine V.gr (pc := 17) 7 0 1 flX7_10 dX7_reckonWithout_17 (kS_0) (by decide) (by decide) rfl (kR_0_0) ?_
    refine V.callV (pc := 20) (e1 := eX6_throughDays) (o := 33) (c := 6) 2 [vR 10, vR 1] [] mfX6_throughDays slX6_throughDays mlX7_124 dX7_reckonWithout_20 (kS_33) (by decide) rfl rfl rfl (Nat.le_of_ble_eq_true rfl) ⟨by decide, by decide, by decide, by decide⟩ ?_
    refine c_X6_throughDays hi hl hT σ hC _ (fun g33 g34 g35 hWD => ?_)
    refine V.qV (pc := 20) rfl rfl ?_
    refine V.hieq (hi' := (upR (upR (upR hi 35 g35) 34 g34) 33 g33)) ((upR_c ((upR_c r0).trans (rs (by decide) r0))).trans (rs (by decide) (rs (by decide) r0))) ?_
    refine V.hieq (hi' := (upR (upR (upR (blk (upR (upR (upR hi 35 g35) 34 g34) 33 g33) 56 (fun s => (upR (upR (upR hi 35 g35) 34 g34) 33 g33) (56 + s))) 71 ((upR (upR (upR hi 35 g35) 34 g34) 33 g33) 71)) 54 ((upR (upR (upR hi 35 g35) 34 g34) 33 g33) 54)) 72 ((upR (upR (upR hi 35 g35) 34 g34) 33 g33) 72))) (by rw [blk_id, upR_id, upR_id, upR_id]) ?_
    refine V.hleq (hl' := (upR (blk hl 64 (fun s => hl (64 + s))) 54 (hl 54))) (by rw [blk_id, upR_id]) ?_
    refine V.iconst (pc := 23) (z := 0) dX7_reckonWithout_23 rfl ⟨by decide, by decide⟩ ?_
    refine V.istore_n (pc := 24) (i := 1) dX7_reckonWithout_24 rfl (by decide) (ls' := [(1, vI 0), (0, vR 0)]) rfl ?_
    have lp25 : ∀ (fu25 : Nat) (k : Nat) (C1 : HI) (N1 : HI) (B1 : Nat → Int) (f1 : Nat → Int) (fl1 : Nat → Int) (w : Nat → Int), (k ≤ 6) → (∀ b, b < k → w b = fwF σ b) → 6 - k < fu25 → V eX7_reckonWithout none KW 25 [(0, vR 0), (1, vI ((k : Nat) : Int))] [] (upR (upR (upR (blk (upR (upR (upR hi 35 g35) 34 g34) 33 g33) 56 C1) 71 B1) 54 f1) 72 w) (upR (blk hl 64 N1) 54 fl1) 0 0 Q := by
      intro fu25
      induction fu25 with
      | zero => intro k C1 N1 B1 f1 fl1 w hk h1 hm25; exact absurd hm25 (Nat.not_lt_zero _)
      | succ fu25 ih25 =>
        intro k C1 N1 B1 f1 fl1 w hk h1 hm25
        refine V.iload_n (pc := 25) 1 dX7_reckonWithout_25 rfl ?_
        refine V.bipush (pc := 26) (z := 6) dX7_reckonWithout_26 (by decide +kernel) ⟨by decide, by decide⟩ ?_
        refine V.icmp_ge (pc := 28) 98 dX7_reckonWithout_28 (by decide) (fun h28 => ?_) (fun h28 => ?_)
        · skip
          refine V.aload_n (pc := 98) 0 dX7_reckonWithout_98 rfl ?_
          refine V.iconst (pc := 99) (z := 1) dX7_reckonWithout_99 rfl ⟨by decide, by decide⟩ ?_
          refine V.pz (pc := 100) (hi' := (upR (upR (upR (upR (blk (upR (upR (upR hi 35 g35) 34 g34) 33 g33) 56 C1) 0 (updF ((upR (upR (upR hi 35 g35) 34 g34) 33 g33) 0) 12 1)) 71 B1) 54 f1) 72 w)) 7 12 flX7_77 dX7_reckonWithout_100 (kS_0) (by decide) (by decide) rfl rfl (Or.inr rfl) (us (by decide) (us (by decide) (us (by decide) u0))) ?_
          refine V.vret (pc := 103) dX7_reckonWithout_103 rfl ?_
          exact hq _ _ (by repeat (first | exact fr0 | refine fr1 (by decide) ?_ | refine fr2 (by decide) ?_ | refine fr3 (by decide) ?_ | refine fr4 (by decide) ?_)) (RC_i (hT) (hC) (hm) (hm2) (rfl) (hgr) (k0) (k1) (k2) (k3) (hfr) (Or.inr ⟨rfl, fun b hb => h1 b (by omega)⟩)) (fun b hb => h1 b (by omega))
        · skip
          refine V.aload_n (pc := 31) 0 dX7_reckonWithout_31 rfl ?_
          refine V.gr (pc := 32) 7 9 72 flX7_62 dX7_reckonWithout_32 (kS_0) (by decide) (by decide) rfl (kR_0_9) ?_
          refine V.iload_n (pc := 35) 1 dX7_reckonWithout_35 rfl ?_
          refine V.sipush (pc := 36) (z := 1000) dX7_reckonWithout_36 (by decide +kernel) ⟨by decide, by decide⟩ ?_
          refine V.is (pc := 39) (len := 6) (hi' := (upR (upR (upR (blk (upR (upR (upR hi 35 g35) 34 g34) 33 g33) 56 C1) 71 B1) 54 f1) 72 (updF w k 1000))) k dX7_reckonWithout_39 (kS_72) (rfl) (by omega) u1 ?_
          refine V.aload_n (pc := 40) 0 dX7_reckonWithout_40 rfl ?_
          refine V.gr (pc := 41) 7 3 10 flX7_33 dX7_reckonWithout_41 (kS_0) (by decide) (by decide) rfl (kR_0_3) ?_
          refine V.gr (pc := 44) 0 1 12 flX7_155 dX7_reckonWithout_44 (kS_10) (by decide) (by decide) rfl (kR_10_1) ?_
          refine V.iload_n (pc := 47) 1 dX7_reckonWithout_47 rfl ?_
          refine V.ia (pc := 48) (len := 6) k (encC (te σ k)) dX7_reckonWithout_48 (kS_12) (rfl) (by omega) (hC.2.2.1 k (by omega)) ?_
          refine V.iconst (pc := 49) (z := (-1)) dX7_reckonWithout_49 rfl ⟨by decide, by decide⟩ ?_
          refine V.icmp_ne (pc := 50) 56 dX7_reckonWithout_50 (by decide) (fun h50 => ?_) (fun h50 => ?_)
          · obtain ⟨w0, hw⟩ := encC_some h50
            refine V.aload_n (pc := 56) 0 dX7_reckonWithout_56 rfl ?_
            refine V.gr (pc := 57) 7 8 54 flX7_59 dX7_reckonWithout_57 (kS_0) (by decide) (by decide) rfl (kR_0_8) ?_
            refine V.aload_n (pc := 60) 0 dX7_reckonWithout_60 rfl ?_
            refine V.gr (pc := 61) 7 3 10 flX7_33 dX7_reckonWithout_61 (kS_0) (by decide) (by decide) rfl (kR_0_3) ?_
            refine V.aload_n (pc := 64) 0 dX7_reckonWithout_64 rfl ?_
            refine V.gr (pc := 65) 7 6 33 flX7_48 dX7_reckonWithout_65 (kS_0) (by decide) (by decide) rfl (kR_0_6) ?_
            refine V.gr (pc := 68) 6 1 35 flX7_128 dX7_reckonWithout_68 (kS_33) (by decide) (by decide) rfl (kR_33_1) ?_
            refine V.aload_n (pc := 71) 0 dX7_reckonWithout_71 rfl ?_
            refine V.gr (pc := 72) 7 0 1 flX7_10 dX7_reckonWithout_72 (kS_0) (by decide) (by decide) rfl (kR_0_0) ?_
            refine V.iload_n (pc := 75) 1 dX7_reckonWithout_75 rfl ?_
            refine V.hieq (hi' := (upR (upR (blk (upR (upR (upR (upR hi 35 g35) 34 g34) 33 g33) 72 (updF w k 1000)) 56 C1) 71 B1) 54 f1)) (rs (by decide) (rs (by decide) (upR_blk (by decide)))) ?_
            refine V.callV (pc := 76) (e1 := eX2_reckon) (o := 54) (c := 2) 4 [vR 10, vR 35, vR 1, vI ((k : Nat) : Int)] [] mfX2_reckon slX2_reckon mlX7_231 dX7_reckonWithout_76 (kS_54) (by decide) rfl rfl rfl (Nat.le_of_ble_eq_true rfl) ⟨by decide, by decide, by decide, by decide⟩ ?_
            refine c_X2_reckon_54 (upR (upR (upR (upR hi 35 g35) 34 g34) 33 g33) 72 (updF w k 1000)) hl C1 N1 B1 f1 fl1 hT σ hC (heardF σ) (fun j hj => hWD.2.2.1 j hj) (HOK_D hwf) ((k : Nat) : Int) _ (fun C' N' B' f' fl' hHQ => ?_)
            refine V.qV (pc := 76) rfl rfl ?_
            refine V.hieq (hi' := (upR (upR (upR (blk (upR (upR (upR hi 35 g35) 34 g34) 33 g33) 56 C') 71 (B')) 54 (f')) 72 (updF w k 1000))) (rs (by decide) (rs (by decide) (upR_blk (by decide)))).symm ?_
            refine V.aload_n (pc := 79) 0 dX7_reckonWithout_79 rfl ?_
            refine V.gr (pc := 80) 7 9 72 flX7_62 dX7_reckonWithout_80 (kS_0) (by decide) (by decide) rfl (kR_0_9) ?_
            refine V.iload_n (pc := 83) 1 dX7_reckonWithout_83 rfl ?_
            refine V.aload_n (pc := 84) 0 dX7_reckonWithout_84 rfl ?_
            refine V.gr (pc := 85) 7 8 54 flX7_59 dX7_reckonWithout_85 (kS_0) (by decide) (by decide) rfl (kR_0_8) ?_
            refine V.gi (pc := 88) 2 5 ((f') 5) flX7_164 dX7_reckonWithout_88 (kS_54) (by decide) (by decide) rfl (rfl) ?_
            refine V.is (pc := 91) (len := 6) (hi' := (upR (upR (upR (blk (upR (upR (upR hi 35 g35) 34 g34) 33 g33) 56 C') 71 (B')) 54 (f')) 72 (updF (updF w k 1000) k ((f') 5)))) k dX7_reckonWithout_91 (kS_72) (rfl) (by omega) u1 ?_
            refine V.iinc (pc := 92) (r := ((k + 1 : Nat) : Int)) 1 dX7_reckonWithout_92 rfl (w32_of (by omega) (by omega) (by omega)) (by decide) (ls' := [(1, vI ((k + 1 : Nat) : Int)), (0, vR 0)]) rfl ?_
            refine V.goto (pc := 95) 25 dX7_reckonWithout_95 (by decide) ?_
            refine V.locs [1, 0] (ls' := [(0, vR 0), (1, vI ((k + 1 : Nat) : Int))]) rfl ?_
            exact ih25 (k + 1) (C') (N') (B') (f') (fl') (updF (updF w k 1000) k ((f') 5)) (by omega) (fun b hb => by by_cases e : b = k; { rw [e, updF_s, fw_s hw]; exact hHQ.2.1 }; { rw [updF_n e, updF_n e]; exact h1 b (by omega) }) (by omega)
          · have htn : te σ k = none := encC_none.mp (by omega)
            refine V.goto (pc := 53) 92 dX7_reckonWithout_53 (by decide) ?_
            refine V.iinc (pc := 92) (r := ((k + 1 : Nat) : Int)) 1 dX7_reckonWithout_92 rfl (w32_of (by omega) (by omega) (by omega)) (by decide) (ls' := [(1, vI ((k + 1 : Nat) : Int)), (0, vR 0)]) rfl ?_
            refine V.goto (pc := 95) 25 dX7_reckonWithout_95 (by decide) ?_
            refine V.locs [1, 0] (ls' := [(0, vR 0), (1, vI ((k + 1 : Nat) : Int))]) rfl ?_
            exact ih25 (k + 1) C1 N1 B1 f1 fl1 (updF w k 1000) (by omega) (fun b hb => by by_cases e : b = k; { rw [e, updF_s, fw_n htn] }; { rw [updF_n e]; exact h1 b (by omega) }) (by omega)
    refine V.locs [1, 0] (ls' := [(0, vR 0), (1, vI 0)]) rfl ?_
    exact lp25 _ 0 (fun s => (upR (upR (upR hi 35 g35) 34 g34) 33 g33) (56 + s)) (fun s => hl (64 + s)) ((upR (upR (upR hi 35 g35) 34 g34) 33 g33) 71) ((upR (upR (upR hi 35 g35) 34 g34) 33 g33) 54) (hl 54) ((upR (upR (upR hi 35 g35) 34 g34) 33 g33) 72) (by omega) (fun b hb => absurd hb (Nat.not_lt_zero b)) (Nat.lt_succ_self _)
  · obtain ⟨hf1, hf2⟩ : hi 0 12 = 1 ∧ ∀ b, b < 6 → hi 72 b = fwF σ b := by rcases hwo with q | q; { exact absurd q h4 }; { exact q }
    refine V.vret (pc := 7) dX7_reckonWithout_7 rfl ?_
    exact hq _ _ fr0 hR hf2

set_option maxRecDepth 100000 in
theorem c_X7_prepareTelling (hi hl : HI) (σ : SG) (m : Nat) (g : Nat → Int) (im : Nat → Option SG) (hR : RC hi hl (σ, m, g, im)) (Q : QT) (hq : ∀ hi' hl' : HI, FrC hi hl hi' hl' → RC hi' hl' (σ, m, g, im) → TR hi' (nn σ) (rF σ (heardF σ)) (sF σ (heardF σ)) (hrF σ) → Q none KW hi' hl') : Con eX7_prepareTelling [vR 0] KW hi hl Q := by
  refine Con.ofV (by decide +kernel) (Nat.le_of_ble_eq_true rfl) ?_
  show V eX7_prepareTelling none KW 0 [(0, vR 0)] [] hi hl 0 0 Q
  obtain ⟨hT, hC, ⟨hm, hm2, hg5, hgr⟩, ⟨k0, k1, k2, k3⟩, hfr, hwo⟩ := RC_o hR
  subst hg5
  have hwf := hC.1
  have hn16 := hwf.2.2.1
  have hbg := hwf.2.2.2.2.1
  refine V.aload_n (pc := 0) 0 dX7_prepareTelling_0 rfl ?_
  refine V.gr (pc := 1) 7 6 33 flX7_48 dX7_prepareTelling_1 (kS_0) (by decide) (by decide) rfl (kR_0_6) ?_
  refine V.aload_n (pc := 4) 0 dX7_prepareTelling_4 rfl ?_
  refine V.gr (pc := 5) 7 3 10 flX7_33 dX7_prepareTelling_5 (kS_0) (by decide) (by decide) rfl (kR_0_3) ?_
  refine V.aload_n (pc := 8) 0 dX7_prepareTelling_8 rfl ?_
  refine V.gr (pc := 9) 7 0 1 flX7_10 dX7_prepareTelling_9 (kS_0) (by decide) (by decide) rfl (kR_0_0) ?_
  refine V.callV (pc := 12) (e1 := eX6_throughDays) (o := 33) (c := 6) 2 [vR 10, vR 1] [] mfX6_throughDays slX6_throughDays mlX7_124 dX7_prepareTelling_12 (kS_33) (by decide) rfl rfl rfl (Nat.le_of_ble_eq_true rfl) ⟨by decide, by decide, by decide, by decide⟩ ?_
  refine c_X6_throughDays hi hl hT σ hC _ (fun g33 g34 g35 hWD => ?_)
  refine V.qV (pc := 12) rfl rfl ?_
  refine V.hieq (hi' := (upR (upR (upR hi 35 g35) 34 g34) 33 g33)) ((upR_c ((upR_c r0).trans (rs (by decide) r0))).trans (rs (by decide) (rs (by decide) r0))) ?_
  refine V.aload_n (pc := 15) 0 dX7_prepareTelling_15 rfl ?_
  refine V.gr (pc := 16) 7 10 73 flX7_69 dX7_prepareTelling_16 (kS_0) (by decide) (by decide) rfl (kR_0_10) ?_
  refine V.aload_n (pc := 19) 0 dX7_prepareTelling_19 rfl ?_
  refine V.gr (pc := 20) 7 3 10 flX7_33 dX7_prepareTelling_20 (kS_0) (by decide) (by decide) rfl (kR_0_3) ?_
  refine V.aload_n (pc := 23) 0 dX7_prepareTelling_23 rfl ?_
  refine V.gr (pc := 24) 7 6 33 flX7_48 dX7_prepareTelling_24 (kS_0) (by decide) (by decide) rfl (kR_0_6) ?_
  refine V.gr (pc := 27) 6 1 35 flX7_128 dX7_prepareTelling_27 (kS_33) (by decide) (by decide) rfl (kR_33_1) ?_
  refine V.aload_n (pc := 30) 0 dX7_prepareTelling_30 rfl ?_
  refine V.gr (pc := 31) 7 6 33 flX7_48 dX7_prepareTelling_31 (kS_0) (by decide) (by decide) rfl (kR_0_6) ?_
  refine V.gr (pc := 34) 6 0 34 flX7_149 dX7_prepareTelling_34 (kS_33) (by decide) (by decide) rfl (kR_33_0) ?_
  refine V.callS (pc := 37) (e1 := eX7_birdsWithSaying) 1 [vR 34] [vR 35, vR 10, vR 73] mfX7_birdsWithSaying slX7_birdsWithSaying mlX7_227 dX7_prepareTelling_37 rfl rfl (Nat.le_of_ble_eq_true rfl) ⟨by decide, by decide, by decide, by decide⟩ ?_
  refine c_X7_birdsWithSaying KW (upR (upR (upR hi 35 g35) 34 g34) 33 g33) hl 34 (kS_34) _ ?_
  refine V.qI (pc := 37) rfl rfl ?_
  refine V.top (v' := vI ((hrF σ : Nat) : Int)) (congrArg (fun x : Nat => vI (x : Int)) (bw_congr (fun b hb => hWD.2.1 b hb))) ?_
  refine V.callV (pc := 40) (e1 := eX5_prepare) (o := 73) (c := 5) 3 [vR 10, vR 35, vI ((hrF σ : Nat) : Int)] [] mfX5_prepare slX5_prepare mlX7_235 dX7_prepareTelling_40 (kS_73) (by decide) rfl rfl rfl (Nat.le_of_ble_eq_true rfl) ⟨by decide, by decide, by decide, by decide⟩ ?_
  refine c_X5_prepare (upR (upR (upR hi 35 g35) 34 g34) 33 g33) hl σ hC (heardF σ) (fun j hj => hWD.2.2.1 j hj) (HOK_D hwf) (hrF σ) (hrF_lt σ) _ (fun g73 g74 g75 g76 hp1 hp2 hp3 => ?_)
  refine V.qV (pc := 40) rfl rfl ?_
  refine V.hieq (hi' := (upR (upR (upR (upR (upR (upR (upR hi 76 g76) 75 g75) 74 g74) 73 g73) 35 g35) 34 g34) 33 g33)) ((upR_c ((upR_c ((upR_c (rs (by decide) (rs (by decide) (rs (by decide) r0)))).trans (rs (by decide) (rs (by decide) (rs (by decide) (rs (by decide) r0)))))).trans (rs (by decide) (rs (by decide) (rs (by decide) (rs (by decide) (rs (by decide) r0))))))).trans (rs (by decide) (rs (by decide) (rs (by decide) (rs (by decide) (rs (by decide) (rs (by decide) r0))))))) ?_
  refine V.vret (pc := 43) dX7_prepareTelling_43 rfl ?_
  exact hq _ _ (by repeat (first | exact fr0 | refine fr1 (by decide) ?_ | refine fr2 (by decide) ?_ | refine fr3 (by decide) ?_ | refine fr4 (by decide) ?_)) (RC_i (hT) (hC) (hm) (hm2) (rfl) (hgr) (k0) (k1) (k2) (k3) (hfr) (hwo)) ⟨hp1, hp2, hn16, hrF_lt σ, fun p hp => ⟨(hp3 p hp).1, (hp3 p hp).2, rF_lt hwf hp, sF_le hwf hp⟩⟩

