set_option maxRecDepth 100000 in
theorem c_bitCount (K : KK) (hi hl : HI) (n : Nat) (hn : n < 64) (Q : QT) (hq : Q (some (vI (bc n : Nat))) K hi hl) : Con eJ6_bitCount_0f7a4 [vI (n : Nat)] K hi hl Q := by
  refine Con.ofV (by decide +kernel) (Nat.le_of_ble_eq_true rfl) ?_
  show V eJ6_bitCount_0f7a4 none K 0 [(0, vI ((n : Nat) : Int))] [] hi hl 0 0 Q
  obtain ⟨b1, b2, b3, b4, b5, b6, b7, b8, b9, b10⟩ := bc_all n hn
  refine V.iload_n (pc := 0) 0 dJ6_bitCount_0f7a4_0 rfl ?_
  refine V.iload_n (pc := 1) 0 dJ6_bitCount_0f7a4_1 rfl ?_
  refine V.iconst (pc := 2) (z := 1) dJ6_bitCount_0f7a4_2 rfl ⟨by decide, by decide⟩ ?_
  refine V.iushr (pc := 3) (((n / 2 ^ 1 : Nat) : Int)) dJ6_bitCount_0f7a4_3 (uN (a := n) (k := 1) (by omega) (by omega)) (rI_n (by omega)) ?_
  refine V.ldcw (pc := 4) (z := 1431655765) coJ6_265 dJ6_bitCount_0f7a4_4 ⟨by decide, by decide⟩ ?_
  refine V.iand (pc := 7) ((((n / 2 ^ 1) &&& 1431655765 : Nat) : Int)) dJ6_bitCount_0f7a4_7 (aN (n / 2 ^ 1) 1431655765) (rI_n (by omega)) ?_
  refine V.isub (pc := 8) (((bcA n : Nat) : Int)) dJ6_bitCount_0f7a4_8 (by rw [show ((n : Nat) : Int) - ((n / 2 ^ 1 &&& 1431655765 : Nat) : Int) = ((bcA n : Nat) : Int) by unfold bcA; omega]; exact w32_id (rI_n (by omega))) ?_
  refine V.istore_n (pc := 9) (i := 0) dJ6_bitCount_0f7a4_9 rfl (by decide) (ls' := [(0, vI ((bcA n : Nat) : Int))]) rfl ?_
  refine V.iload_n (pc := 10) 0 dJ6_bitCount_0f7a4_10 rfl ?_
  refine V.ldcw (pc := 11) (z := 858993459) coJ6_266 dJ6_bitCount_0f7a4_11 ⟨by decide, by decide⟩ ?_
  refine V.iand (pc := 14) ((((bcA n) &&& 858993459 : Nat) : Int)) dJ6_bitCount_0f7a4_14 (aN (bcA n) 858993459) (rI_n (by omega)) ?_
  refine V.iload_n (pc := 15) 0 dJ6_bitCount_0f7a4_15 rfl ?_
  refine V.iconst (pc := 16) (z := 2) dJ6_bitCount_0f7a4_16 rfl ⟨by decide, by decide⟩ ?_
  refine V.iushr (pc := 17) ((((bcA n) / 2 ^ 2 : Nat) : Int)) dJ6_bitCount_0f7a4_17 (uN (a := (bcA n)) (k := 2) (by omega) (by omega)) (rI_n (by omega)) ?_
  refine V.ldcw (pc := 18) (z := 858993459) coJ6_266 dJ6_bitCount_0f7a4_18 ⟨by decide, by decide⟩ ?_
  refine V.iand (pc := 21) (((((bcA n) / 2 ^ 2) &&& 858993459 : Nat) : Int)) dJ6_bitCount_0f7a4_21 (aN ((bcA n) / 2 ^ 2) 858993459) (rI_n (by omega)) ?_
  refine V.iadd (pc := 22) (((bcB n : Nat) : Int)) dJ6_bitCount_0f7a4_22 (addN (a := bcA n &&& 858993459) (b := bcA n / 2 ^ 2 &&& 858993459) (by unfold bcB at b5; omega)) ?_
  refine V.istore_n (pc := 23) (i := 0) dJ6_bitCount_0f7a4_23 rfl (by decide) (ls' := [(0, vI ((bcB n : Nat) : Int))]) rfl ?_
  refine V.iload_n (pc := 24) 0 dJ6_bitCount_0f7a4_24 rfl ?_
  refine V.iload_n (pc := 25) 0 dJ6_bitCount_0f7a4_25 rfl ?_
  refine V.iconst (pc := 26) (z := 4) dJ6_bitCount_0f7a4_26 rfl ⟨by decide, by decide⟩ ?_
  refine V.iushr (pc := 27) ((((bcB n) / 2 ^ 4 : Nat) : Int)) dJ6_bitCount_0f7a4_27 (uN (a := (bcB n)) (k := 4) (by omega) (by omega)) (rI_n (by omega)) ?_
  refine V.iadd (pc := 28) ((((bcB n + (bcB n) / 2 ^ 4) : Nat) : Int)) dJ6_bitCount_0f7a4_28 (addN (a := bcB n) (b := (bcB n) / 2 ^ 4) (by omega)) ?_
  refine V.ldcw (pc := 29) (z := 252645135) coJ6_267 dJ6_bitCount_0f7a4_29 ⟨by decide, by decide⟩ ?_
  refine V.iand (pc := 32) (((bcC n : Nat) : Int)) dJ6_bitCount_0f7a4_32 (aN (bcB n + bcB n / 2 ^ 4) 252645135) (rI_n (by omega)) ?_
  refine V.istore_n (pc := 33) (i := 0) dJ6_bitCount_0f7a4_33 rfl (by decide) (ls' := [(0, vI ((bcC n : Nat) : Int))]) rfl ?_
  refine V.iload_n (pc := 34) 0 dJ6_bitCount_0f7a4_34 rfl ?_
  refine V.iload_n (pc := 35) 0 dJ6_bitCount_0f7a4_35 rfl ?_
  refine V.bipush (pc := 36) (z := 8) dJ6_bitCount_0f7a4_36 (by decide +kernel) ⟨by decide, by decide⟩ ?_
  refine V.iushr (pc := 38) ((((bcC n) / 2 ^ 8 : Nat) : Int)) dJ6_bitCount_0f7a4_38 (uN (a := (bcC n)) (k := 8) (by omega) (by omega)) (rI_n (by omega)) ?_
  refine V.iadd (pc := 39) (((bcD n : Nat) : Int)) dJ6_bitCount_0f7a4_39 (addN (a := bcC n) (b := bcC n / 2 ^ 8) (by unfold bcD at b8; omega)) ?_
  refine V.istore_n (pc := 40) (i := 0) dJ6_bitCount_0f7a4_40 rfl (by decide) (ls' := [(0, vI ((bcD n : Nat) : Int))]) rfl ?_
  refine V.iload_n (pc := 41) 0 dJ6_bitCount_0f7a4_41 rfl ?_
  refine V.iload_n (pc := 42) 0 dJ6_bitCount_0f7a4_42 rfl ?_
  refine V.bipush (pc := 43) (z := 16) dJ6_bitCount_0f7a4_43 (by decide +kernel) ⟨by decide, by decide⟩ ?_
  refine V.iushr (pc := 45) ((((bcD n) / 2 ^ 16 : Nat) : Int)) dJ6_bitCount_0f7a4_45 (uN (a := (bcD n)) (k := 16) (by omega) (by omega)) (rI_n (by omega)) ?_
  refine V.iadd (pc := 46) (((bcE n : Nat) : Int)) dJ6_bitCount_0f7a4_46 (addN (a := bcD n) (b := bcD n / 2 ^ 16) (by unfold bcE at b9; omega)) ?_
  refine V.istore_n (pc := 47) (i := 0) dJ6_bitCount_0f7a4_47 rfl (by decide) (ls' := [(0, vI ((bcE n : Nat) : Int))]) rfl ?_
  refine V.iload_n (pc := 48) 0 dJ6_bitCount_0f7a4_48 rfl ?_
  refine V.bipush (pc := 49) (z := 63) dJ6_bitCount_0f7a4_49 (by decide +kernel) ⟨by decide, by decide⟩ ?_
  refine V.iand (pc := 51) (((bc n : Nat) : Int)) dJ6_bitCount_0f7a4_51 (by rw [← b10]; exact aN (bcE n) 63) (rI_n (by have := bc_le n; omega)) ?_
  refine V.iret (pc := 52) (z := ((bc n : Nat) : Int)) dJ6_bitCount_0f7a4_52 rfl ?_
  exact hq

set_option maxRecDepth 100000 in
theorem c_X5_goBack (hi hl : HI) (σ : SG) (hC : CR hi 10 σ) (p : Nat) (hp : p < nn σ) (h6 : sp' σ p ≤ 6) (rl : Nat → Nat) (hrl : ∀ b, b < 6 → hi 76 b = (rl b : Nat)) (hrb : ∀ b, b < 6 → rl b < 64) (Q : QT) (hq : ∀ g : Nat → Int, (∀ b, b < 6 → g b = (((if sp' σ p < 6 then updF (updF rl (he σ p) 0) (sp' σ p) (updF rl (he σ p) 0 (sp' σ p) ||| rl (he σ p)) else updF rl (he σ p) 0) b : Nat) : Int)) → Q none KW (upR (upR (upR hi 74 (updF (hi 74) p (rl (he σ p) : Nat))) 75 (updF (hi 75) p (so σ (he σ p) : Nat))) 76 g) hl) : Con eX5_goBack [vR 73, vR 10, vI (p : Nat)] KW hi hl Q := by
  refine Con.ofV (by decide +kernel) (Nat.le_of_ble_eq_true rfl) ?_
  show V eX5_goBack none KW 0 [(0, vR 73), (1, vR 10), (2, vI ((p : Nat) : Int))] [] hi hl 0 0 Q
  refine V.hieq (hi' := (upR (upR (upR hi 74 (hi 74)) 75 (hi 75)) 76 (hi 76))) (by rw [upR_id, upR_id, upR_id]) ?_
  have hwf := hC.1
  have hpp := hwf.2.2.2.1 p hp
  have hn16 := hwf.2.2.1
  have hCp := hC.2.2.2.2.1 p hp
  have hso := hwf.1 (he σ p) (by omega)
  have hrh := hrb (he σ p) (by omega)
  refine V.aload_n (pc := 0) 1 dX5_goBack_0 rfl ?_
  refine V.gr (pc := 1) 0 2 13 flX5_28 dX5_goBack_1 (kS_10) (by decide) (by decide) rfl (kR_10_2) ?_
  refine V.gr (pc := 4) 1 0 14 flX5_47 dX5_goBack_4 (kS_13) (by decide) (by decide) rfl (kR_13_0) ?_
  refine V.iload_n (pc := 7) 2 dX5_goBack_7 rfl ?_
  refine V.ia (pc := 8) (len := 16) p ((sp' σ p : Nat) : Int) dX5_goBack_8 (kS_14) (rfl) (by omega) (hCp.1) ?_
  refine V.istore_n (pc := 9) (i := 3) dX5_goBack_9 rfl (by decide) (ls' := [(3, vI ((sp' σ p : Nat) : Int)), (0, vR 73), (1, vR 10), (2, vI ((p : Nat) : Int))]) rfl ?_
  refine V.aload_n (pc := 10) 2 dX5_goBack_10 rfl ?_
  refine V.gr (pc := 11) 0 2 13 flX5_28 dX5_goBack_11 (kS_10) (by decide) (by decide) rfl (kR_10_2) ?_
  refine V.gr (pc := 14) 1 1 15 flX5_50 dX5_goBack_14 (kS_13) (by decide) (by decide) rfl (kR_13_1) ?_
  refine V.iload_n (pc := 17) 3 dX5_goBack_17 rfl ?_
  refine V.ia (pc := 18) (len := 16) p ((he σ p : Nat) : Int) dX5_goBack_18 (kS_15) (rfl) (by omega) (hCp.2.1) ?_
  refine V.istore (pc := 19) (i := 4) dX5_goBack_19 (by decide) (ls' := [(4, vI ((he σ p : Nat) : Int)), (3, vI ((sp' σ p : Nat) : Int)), (0, vR 73), (1, vR 10), (2, vI ((p : Nat) : Int))]) rfl ?_
  refine V.iload (pc := 21) 0 dX5_goBack_21 rfl ?_
  refine V.callS (pc := 23) (e1 := eX7_isBird) 1 [vI ((he σ p : Nat) : Int)] [] mfX7_isBird slX7_isBird mlX5_53 dX5_goBack_23 rfl rfl (Nat.le_of_ble_eq_true rfl) ⟨by decide, by decide, by decide, by decide⟩ ?_
  refine c_X7_isBird KW (upR (upR (upR hi 74 (hi 74)) 75 (hi 75)) 76 (hi 76)) hl ((he σ p : Nat) : Int) _ (fun hb => ?_) (fun hb => absurd hb (by omega))
  · skip
    refine V.qI (pc := 23) rfl rfl ?_
    refine V.if_ne (pc := 26) 30 dX5_goBack_26 (by decide) (fun h26 => ?_) (fun hc => by exact absurd hc (by decide))
    refine V.aload_n (pc := 30) 2 dX5_goBack_30 rfl ?_
    refine V.gr (pc := 31) 5 0 74 flX5_9 dX5_goBack_31 (kS_73) (by decide) (by decide) rfl (kR_73_0) ?_
    refine V.iload_n (pc := 34) 4 dX5_goBack_34 rfl ?_
    refine V.aload_n (pc := 35) 2 dX5_goBack_35 rfl ?_
    refine V.gr (pc := 36) 5 2 76 flX5_18 dX5_goBack_36 (kS_73) (by decide) (by decide) rfl (kR_73_2) ?_
    refine V.iload (pc := 39) 0 dX5_goBack_39 rfl ?_
    refine V.ia (pc := 41) (len := 6) (he σ p) ((rl (he σ p) : Nat) : Int) dX5_goBack_41 (kS_76) (rfl) (by omega) (hrl _ (by omega)) ?_
    refine V.is (pc := 42) (len := 16) (hi' := (upR (upR (upR hi 74 (updF (hi 74) p ((rl (he σ p) : Nat) : Int))) 75 (hi 75)) 76 (hi 76))) p dX5_goBack_42 (kS_74) (rfl) (by omega) (us (by decide) (us (by decide) u1)) ?_
    refine V.aload_n (pc := 43) 2 dX5_goBack_43 rfl ?_
    refine V.gr (pc := 44) 5 1 75 flX5_15 dX5_goBack_44 (kS_73) (by decide) (by decide) rfl (kR_73_1) ?_
    refine V.iload_n (pc := 47) 4 dX5_goBack_47 rfl ?_
    refine V.aload_n (pc := 48) 3 dX5_goBack_48 rfl ?_
    refine V.gr (pc := 49) 0 0 11 flX5_57 dX5_goBack_49 (kS_10) (by decide) (by decide) rfl (kR_10_0) ?_
    refine V.iload (pc := 52) 0 dX5_goBack_52 rfl ?_
    refine V.ia (pc := 54) (len := 6) (he σ p) ((so σ (he σ p) : Nat) : Int) dX5_goBack_54 (kS_11) (rfl) (by omega) (hC.2.1 _ (by omega)) ?_
    refine V.is (pc := 55) (len := 16) (hi' := (upR (upR (upR hi 74 (updF (hi 74) p ((rl (he σ p) : Nat) : Int))) 75 (updF (hi 75) p ((so σ (he σ p) : Nat) : Int))) 76 (hi 76))) p dX5_goBack_55 (kS_75) (rfl) (by omega) (us (by decide) u1) ?_
    refine V.aload_n (pc := 56) 2 dX5_goBack_56 rfl ?_
    refine V.gr (pc := 57) 5 2 76 flX5_18 dX5_goBack_57 (kS_73) (by decide) (by decide) rfl (kR_73_2) ?_
    refine V.iload (pc := 60) 0 dX5_goBack_60 rfl ?_
    refine V.iconst (pc := 62) (z := 0) dX5_goBack_62 rfl ⟨by decide, by decide⟩ ?_
    refine V.is (pc := 63) (len := 6) (hi' := (upR (upR (upR hi 74 (updF (hi 74) p ((rl (he σ p) : Nat) : Int))) 75 (updF (hi 75) p ((so σ (he σ p) : Nat) : Int))) 76 (updF (hi 76) (he σ p) 0))) (he σ p) dX5_goBack_63 (kS_76) (rfl) (by omega) u1 ?_
    refine V.iload_n (pc := 64) 1 dX5_goBack_64 rfl ?_
    refine V.callS (pc := 65) (e1 := eX7_isBird) 1 [vI ((sp' σ p : Nat) : Int)] [] mfX7_isBird slX7_isBird mlX5_53 dX5_goBack_65 rfl rfl (Nat.le_of_ble_eq_true rfl) ⟨by decide, by decide, by decide, by decide⟩ ?_
    refine c_X7_isBird KW (upR (upR (upR hi 74 (updF (hi 74) p ((rl (he σ p) : Nat) : Int))) 75 (updF (hi 75) p ((so σ (he σ p) : Nat) : Int))) 76 (updF (hi 76) (he σ p) 0)) hl ((sp' σ p : Nat) : Int) _ (fun hb => ?_) (fun hb => ?_)
    · skip
      refine V.qI (pc := 65) rfl rfl ?_
      refine V.if_eq (pc := 68) 86 dX5_goBack_68 (by decide) (fun hc => by exact absurd hc (by decide)) (fun h68 => ?_)
      refine V.aload_n (pc := 71) 2 dX5_goBack_71 rfl ?_
      refine V.gr (pc := 72) 5 2 76 flX5_18 dX5_goBack_72 (kS_73) (by decide) (by decide) rfl (kR_73_2) ?_
      refine V.iload_n (pc := 75) 1 dX5_goBack_75 rfl ?_
      refine V.dup2 (pc := 76) dX5_goBack_76 rfl rfl ?_
      have hrs := hrb (sp' σ p) (by omega)
      refine V.ia (pc := 77) (len := 6) (sp' σ p) ((rl (sp' σ p) : Nat) : Int) dX5_goBack_77 (kS_76) (rfl) (by omega) (by show updF (hi 76) (he σ p) 0 (sp' σ p) = _; rw [updF_n (by omega)]; exact hrl _ (by omega)) ?_
      refine V.aload_n (pc := 78) 2 dX5_goBack_78 rfl ?_
      refine V.gr (pc := 79) 5 0 74 flX5_9 dX5_goBack_79 (kS_73) (by decide) (by decide) rfl (kR_73_0) ?_
      refine V.iload_n (pc := 82) 4 dX5_goBack_82 rfl ?_
      refine V.ia (pc := 83) (len := 16) p ((rl (he σ p) : Nat) : Int) dX5_goBack_83 (kS_74) (rfl) (by omega) (by show updF (hi 74) p _ p = _; rw [updF_s]) ?_
      have hor := or64 _ hrs _ hrh
      refine V.ior (pc := 84) ((((rl (sp' σ p)) ||| (rl (he σ p)) : Nat) : Int)) dX5_goBack_84 (oN (rl (sp' σ p)) (rl (he σ p))) (rI_n (by omega)) ?_
      refine V.is (pc := 85) (len := 6) (hi' := (upR (upR (upR hi 74 (updF (hi 74) p ((rl (he σ p) : Nat) : Int))) 75 (updF (hi 75) p ((so σ (he σ p) : Nat) : Int))) 76 (updF (updF (hi 76) (he σ p) 0) (sp' σ p) (((rl (sp' σ p)) ||| (rl (he σ p)) : Nat) : Int)))) (sp' σ p) dX5_goBack_85 (kS_76) (rfl) (by omega) u1 ?_
      refine V.vret (pc := 86) dX5_goBack_86 rfl ?_
      refine hq _ (fun b hb => ?_)
      rw [if_pos (by omega)]
      by_cases e : b = sp' σ p
      · rw [e, updF_s, updF_s, updF_n (by omega)]
      · rw [updF_n e, updF_n e]
        by_cases e2 : b = he σ p
        · rw [e2, updF_s, updF_s]; rfl
        · rw [updF_n e2, updF_n e2]; exact hrl b hb
    · skip
      refine V.qI (pc := 65) rfl rfl ?_
      refine V.if_eq (pc := 68) 86 dX5_goBack_68 (by decide) (fun h68 => ?_) (fun hc => by exact absurd hc (by decide))
      refine V.vret (pc := 86) dX5_goBack_86 rfl ?_
      refine hq _ (fun b hb => ?_)
      rw [if_neg (by omega)]
      by_cases e2 : b = he σ p
      · rw [e2, updF_s, updF_s]; rfl
      · rw [updF_n e2, updF_n e2]; exact hrl b hb

set_option maxRecDepth 100000 in
theorem c_X5_prepare (hi hl : HI) (σ : SG) (hC : CR hi 10 σ) (H : Nat → Bool) (hH : ∀ j, j < nn σ → hi 35 j = b2i (H j)) (hHO : HOK σ H) (hr : Nat) (hhr : hr < 64) (Q : QT) (hq : ∀ g73 g74 g75 g76 : Nat → Int, g73 3 = (nn σ : Nat) → g73 4 = (hr : Nat) → (∀ p, p < nn σ → g74 p = (rF σ H p : Nat) ∧ g75 p = (sF σ H p : Nat)) → Q none KW (upR (upR (upR (upR hi 73 g73) 74 g74) 75 g75) 76 g76) hl) : Con eX5_prepare [vR 73, vR 10, vR 35, vI (hr : Nat)] KW hi hl Q := by
  refine Con.ofV (by decide +kernel) (Nat.le_of_ble_eq_true rfl) ?_
  show V eX5_prepare none KW 0 [(0, vR 73), (1, vR 10), (2, vR 35), (3, vI ((hr : Nat) : Int))] [] hi hl 0 0 Q
  refine V.hieq (hi' := (upR (upR (upR (upR hi 73 (hi 73)) 74 (hi 74)) 75 (hi 75)) 76 (hi 76))) (by rw [upR_id, upR_id, upR_id, upR_id]) ?_
  have hwf := hC.1
  have hn16 := hwf.2.2.1
  refine V.aload_n (pc := 0) 0 dX5_prepare_0 rfl ?_
  refine V.iload_n (pc := 1) 3 dX5_prepare_1 rfl ?_
  refine V.pi (pc := 2) (hi' := (upR (upR (upR (upR hi 73 (updF (hi 73) 4 ((hr : Nat) : Int))) 74 (hi 74)) 75 (hi 75)) 76 (hi 76))) 5 4 flX5_25 dX5_prepare_2 (kS_73) (by decide) (by decide) rfl rfl (us (by decide) (us (by decide) (us (by decide) u1))) ?_
  refine V.aload_n (pc := 5) 0 dX5_prepare_5 rfl ?_
  refine V.aload_n (pc := 6) 1 dX5_prepare_6 rfl ?_
  refine V.gr (pc := 7) 0 2 13 flX5_28 dX5_prepare_7 (kS_10) (by decide) (by decide) rfl (kR_10_2) ?_
  refine V.gi (pc := 10) 1 3 ((nn σ : Nat) : Int) flX5_34 dX5_prepare_10 (kS_13) (by decide) (by decide) rfl (hC.2.2.2.1) ?_
  refine V.bipush (pc := 13) (z := 16) dX5_prepare_13 (by decide +kernel) ⟨by decide, by decide⟩ ?_
  refine V.mmin (pc := 15) (((nn σ : Nat) : Int)) mmX5_37 mm_st mm_in mm_cd dX5_prepare_15 (by decide) (Nat.le_of_ble_eq_true rfl) (if_neg (by omega)) ?_
  refine V.pi (pc := 18) (hi' := (upR (upR (upR (upR hi 73 (updF (updF (hi 73) 4 ((hr : Nat) : Int)) 3 ((nn σ : Nat) : Int))) 74 (hi 74)) 75 (hi 75)) 76 (hi 76))) 5 3 flX5_21 dX5_prepare_18 (kS_73) (by decide) (by decide) rfl rfl (us (by decide) (us (by decide) (us (by decide) u1))) ?_
  refine V.iconst (pc := 21) (z := 0) dX5_prepare_21 rfl ⟨by decide, by decide⟩ ?_
  refine V.istore (pc := 22) (i := 4) dX5_prepare_22 (by decide) (ls' := [(4, vI 0), (0, vR 73), (1, vR 10), (2, vR 35), (3, vI ((hr : Nat) : Int))]) rfl ?_
  have lp24 : ∀ (fu24 : Nat) (k : Nat) (g : Nat → Int), (k ≤ 6) → (∀ b, b < k → g b = ((2 ^ b : Nat) : Int)) → 6 - k < fu24 → V eX5_prepare none KW 24 [(0, vR 73), (1, vR 10), (2, vR 35), (3, vI ((hr : Nat) : Int)), (4, vI ((k : Nat) : Int))] [] (upR (upR (upR (upR hi 73 (updF (updF (hi 73) 4 ((hr : Nat) : Int)) 3 ((nn σ : Nat) : Int))) 74 (hi 74)) 75 (hi 75)) 76 g) hl 0 0 Q := by
    intro fu24
    induction fu24 with
    | zero => intro k g hk h1 hm24; exact absurd hm24 (Nat.not_lt_zero _)
    | succ fu24 ih24 =>
      intro k g hk h1 hm24
      have hp6 : 2 ^ k ≤ 2 ^ 6 := Nat.pow_le_pow_right (by decide) hk
      have h64 : 2 ^ 6 = 64 := rfl
      refine V.iload (pc := 24) 4 dX5_prepare_24 rfl ?_
      refine V.bipush (pc := 26) (z := 6) dX5_prepare_26 (by decide +kernel) ⟨by decide, by decide⟩ ?_
      refine V.icmp_ge (pc := 28) 48 dX5_prepare_28 (by decide) (fun h28 => ?_) (fun h28 => ?_)
      · skip
        refine V.aload_n (pc := 48) 0 dX5_prepare_48 rfl ?_
        refine V.gi (pc := 49) 5 3 ((nn σ : Nat) : Int) flX5_21 dX5_prepare_49 (kS_73) (by decide) (by decide) rfl (rfl) ?_
        refine V.iconst (pc := 52) (z := 1) dX5_prepare_52 rfl ⟨by decide, by decide⟩ ?_
        refine V.isub (pc := 53) ((((nn σ : Nat) : Int) - 1)) dX5_prepare_53 (w32_of (by omega) (by omega) (by omega)) ?_
        refine V.istore (pc := 54) (i := 4) dX5_prepare_54 (by decide) (ls' := [(4, vI (((nn σ : Nat) : Int) - 1)), (0, vR 73), (1, vR 10), (2, vR 35), (3, vI ((hr : Nat) : Int))]) rfl ?_
        have lp56 : ∀ (fu56 : Nat) (k : Nat) (g74 : Nat → Int) (g75 : Nat → Int) (g76 : Nat → Int), (k ≤ nn σ) → (∀ b, b < 6 → g76 b = ((rlF σ H (nn σ - k)) b : Nat)) → (∀ p, p < nn σ → k ≤ p → g74 p = (rF σ H p : Nat) ∧ g75 p = (sF σ H p : Nat)) → k < fu56 → V eX5_prepare none KW 56 [(0, vR 73), (1, vR 10), (2, vR 35), (3, vI ((hr : Nat) : Int)), (4, vI ((k : Int) - 1))] [] (upR (upR (upR (upR hi 73 (updF (updF (hi 73) 4 ((hr : Nat) : Int)) 3 ((nn σ : Nat) : Int))) 74 g74) 75 g75) 76 g76) hl 0 0 Q := by
          intro fu56
          induction fu56 with
          | zero => intro k g74 g75 g76 hk hr76 hrs hm56; exact absurd hm56 (Nat.not_lt_zero _)
          | succ fu56 ih56 =>
            intro k g74 g75 g76 hk hr76 hrs hm56
            refine V.iload (pc := 56) 4 dX5_prepare_56 rfl ?_
            refine V.if_lt (pc := 58) 104 dX5_prepare_58 (by decide) (fun h58 => ?_) (fun h58 => ?_)
            · have hk0 : k = 0 := by omega
              refine V.vret (pc := 104) dX5_prepare_104 rfl ?_
              exact hq _ _ _ _ rfl rfl (fun p hp => hrs p hp (by omega))
            · have hk1 : 1 ≤ k := by omega
              refine V.aload_n (pc := 61) 0 dX5_prepare_61 rfl ?_
              refine V.gr (pc := 62) 5 0 74 flX5_9 dX5_prepare_62 (kS_73) (by decide) (by decide) rfl (kR_73_0) ?_
              refine V.iload (pc := 65) 4 dX5_prepare_65 rfl ?_
              refine V.iconst (pc := 67) (z := 0) dX5_prepare_67 rfl ⟨by decide, by decide⟩ ?_
              refine V.is (pc := 68) (len := 16) (hi' := (upR (upR (upR (upR hi 73 (updF (updF (hi 73) 4 ((hr : Nat) : Int)) 3 ((nn σ : Nat) : Int))) 74 (updF g74 (k - 1) 0)) 75 g75) 76 g76)) (k - 1) dX5_prepare_68 (kS_74) (by omega) (by omega) (us (by decide) (us (by decide) u1)) ?_
              refine V.aload_n (pc := 69) 0 dX5_prepare_69 rfl ?_
              refine V.gr (pc := 70) 5 1 75 flX5_15 dX5_prepare_70 (kS_73) (by decide) (by decide) rfl (kR_73_1) ?_
              refine V.iload (pc := 73) 4 dX5_prepare_73 rfl ?_
              refine V.iconst (pc := 75) (z := 0) dX5_prepare_75 rfl ⟨by decide, by decide⟩ ?_
              refine V.is (pc := 76) (len := 16) (hi' := (upR (upR (upR (upR hi 73 (updF (updF (hi 73) 4 ((hr : Nat) : Int)) 3 ((nn σ : Nat) : Int))) 74 (updF g74 (k - 1) 0)) 75 (updF g75 (k - 1) 0)) 76 g76)) (k - 1) dX5_prepare_76 (kS_75) (by omega) (by omega) (us (by decide) u1) ?_
              refine V.iload (pc := 77) 4 dX5_prepare_77 rfl ?_
              refine V.aload_n (pc := 79) 2 dX5_prepare_79 rfl ?_
              refine V.alen (pc := 80) (len := 16) (t := 2) dX5_prepare_80 (kS_35) (by decide) (by decide) ?_
              refine V.icmp_ge (pc := 81) 98 dX5_prepare_81 (by decide) (fun hc => by exfalso; omega) (fun h81 => ?_)
              refine V.aload_n (pc := 84) 2 dX5_prepare_84 rfl ?_
              refine V.iload (pc := 85) 4 dX5_prepare_85 rfl ?_
              refine V.za (pc := 87) (len := 16) (k - 1) (b2i (H (k - 1))) dX5_prepare_87 (kS_35) (by omega) (by omega) (hH _ (by omega)) ?_
              refine V.if_eq (pc := 88) 98 dX5_prepare_88 (by decide) (fun h88 => ?_) (fun h88 => ?_)
              · have hHk := b2i_F h88
                refine V.iinc (pc := 98) (r := (((k - 1 : Nat) : Int) - 1)) 4 dX5_prepare_98 rfl (w32_of (by omega) (by omega) (by omega)) (by decide) (ls' := [(4, vI (((k - 1 : Nat) : Int) - 1)), (0, vR 73), (1, vR 10), (2, vR 35), (3, vI ((hr : Nat) : Int))]) rfl ?_
                refine V.goto (pc := 101) 56 dX5_prepare_101 (by decide) ?_
                refine V.locs [1, 2, 3, 4, 0] (ls' := [(0, vR 73), (1, vR 10), (2, vR 35), (3, vI ((hr : Nat) : Int)), (4, vI (((k - 1 : Nat) : Int) - 1))]) rfl ?_
                exact ih56 (k - 1) (updF g74 (k - 1) 0) (updF g75 (k - 1) 0) g76 (by omega) (by rw [rlF_k hk1 hk, hHk]; exact hr76) (fun p hp hp2 => by by_cases e : p = k - 1; { rw [e, updF_s, updF_s]; unfold rF sF; rw [hHk]; exact ⟨rfl, rfl⟩ }; { rw [updF_n e, updF_n e]; exact hrs p hp (by omega) }) (by omega)
              · have hHk := b2i_T h88
                have hs6 := hHO (k - 1) (by omega) hHk
                refine V.aload_n (pc := 91) 0 dX5_prepare_91 rfl ?_
                refine V.aload_n (pc := 92) 1 dX5_prepare_92 rfl ?_
                refine V.iload (pc := 93) 4 dX5_prepare_93 rfl ?_
                refine V.top (v' := vI (((k - 1) : Nat) : Int)) (by rw [show ((k : Int) - 1) = ((k - 1 : Nat) : Int) by omega]) ?_
                refine V.callV (pc := 95) (e1 := eX5_goBack) (o := 73) (c := 5) 2 [vR 10, vI (((k - 1) : Nat) : Int)] [] mfX5_goBack slX5_goBack mlX5_43 dX5_prepare_95 (kS_73) (by decide) rfl rfl rfl (Nat.le_of_ble_eq_true rfl) ⟨by decide, by decide, by decide, by decide⟩ ?_
                refine c_X5_goBack (upR (upR (upR (upR hi 73 (updF (updF (hi 73) 4 ((hr : Nat) : Int)) 3 ((nn σ : Nat) : Int))) 74 (updF g74 (k - 1) 0)) 75 (updF g75 (k - 1) 0)) 76 g76) hl σ hC (k - 1) (by omega) (by omega) (rlF σ H (nn σ - k)) hr76 (rlF_lt hwf _ (by omega)) _ (fun g9 hg9 => ?_)
                refine V.qV (pc := 95) rfl rfl ?_
                refine V.hieq (hi' := (upR (upR (upR (upR hi 73 (updF (updF (hi 73) 4 ((hr : Nat) : Int)) 3 ((nn σ : Nat) : Int))) 74 (updF (updF g74 (k - 1) 0) (k - 1) (((rlF σ H (nn σ - k)) (he σ (k - 1)) : Nat) : Int))) 75 (updF (updF g75 (k - 1) 0) (k - 1) ((so σ (he σ (k - 1)) : Nat) : Int))) 76 g9)) ((upR_c ((upR_c (rs (by decide) (rs (by decide) r1))).trans (rs (by decide) r1))).trans r1) ?_
                refine V.iinc (pc := 98) (r := (((k - 1 : Nat) : Int) - 1)) 4 dX5_prepare_98 rfl (w32_of (by omega) (by omega) (by omega)) (by decide) (ls' := [(4, vI (((k - 1 : Nat) : Int) - 1)), (0, vR 73), (1, vR 10), (2, vR 35), (3, vI ((hr : Nat) : Int))]) rfl ?_
                refine V.goto (pc := 101) 56 dX5_prepare_101 (by decide) ?_
                refine V.locs [1, 2, 3, 4, 0] (ls' := [(0, vR 73), (1, vR 10), (2, vR 35), (3, vI ((hr : Nat) : Int)), (4, vI (((k - 1 : Nat) : Int) - 1))]) rfl ?_
                exact ih56 (k - 1) (updF (updF g74 (k - 1) 0) (k - 1) (((rlF σ H (nn σ - k)) (he σ (k - 1)) : Nat) : Int)) (updF (updF g75 (k - 1) 0) (k - 1) ((so σ (he σ (k - 1)) : Nat) : Int)) g9 (by omega) (by rw [rlF_k hk1 hk, if_pos hHk]; exact hg9) (fun p hp hp2 => by by_cases e : p = k - 1; { rw [e, updF_s, updF_s, rF_k hk1 hk hHk]; unfold sF; rw [if_pos hHk]; exact ⟨rfl, rfl⟩ }; { rw [updF_n e, updF_n e, updF_n e, updF_n e]; exact hrs p hp (by omega) }) (by omega)
        refine V.locs [1, 2, 3, 4, 0] (ls' := [(0, vR 73), (1, vR 10), (2, vR 35), (3, vI ((hr : Nat) : Int)), (4, vI (((nn σ : Nat) : Int) - 1))]) rfl ?_
        exact lp56 _ (nn σ) (hi 74) (hi 75) g (by omega) (by rw [Nat.sub_self]; exact fun b hb => h1 b (by omega)) (fun p hp hp2 => absurd hp2 (by omega)) (Nat.lt_succ_self _)
      · skip
        refine V.aload_n (pc := 31) 0 dX5_prepare_31 rfl ?_
        refine V.gr (pc := 32) 5 2 76 flX5_18 dX5_prepare_32 (kS_73) (by decide) (by decide) rfl (kR_73_2) ?_
        refine V.iload (pc := 35) 4 dX5_prepare_35 rfl ?_
        refine V.iconst (pc := 37) (z := 1) dX5_prepare_37 rfl ⟨by decide, by decide⟩ ?_
        refine V.iload (pc := 38) 4 dX5_prepare_38 rfl ?_
        refine V.ishl (pc := 40) (((1 * 2 ^ k : Nat) : Int)) dX5_prepare_40 (sN (a := 1) (by omega) (by omega)) (rI_n (by omega)) ?_
        refine V.is (pc := 41) (len := 6) (hi' := (upR (upR (upR (upR hi 73 (updF (updF (hi 73) 4 ((hr : Nat) : Int)) 3 ((nn σ : Nat) : Int))) 74 (hi 74)) 75 (hi 75)) 76 (updF g k ((1 * 2 ^ k : Nat) : Int)))) k dX5_prepare_41 (kS_76) (rfl) (by omega) u1 ?_
        refine V.iinc (pc := 42) (r := ((k + 1 : Nat) : Int)) 4 dX5_prepare_42 rfl (w32_of (by omega) (by omega) (by omega)) (by decide) (ls' := [(4, vI ((k + 1 : Nat) : Int)), (0, vR 73), (1, vR 10), (2, vR 35), (3, vI ((hr : Nat) : Int))]) rfl ?_
        refine V.goto (pc := 45) 24 dX5_prepare_45 (by decide) ?_
        refine V.locs [1, 2, 3, 4, 0] (ls' := [(0, vR 73), (1, vR 10), (2, vR 35), (3, vI ((hr : Nat) : Int)), (4, vI ((k + 1 : Nat) : Int))]) rfl ?_
        exact ih24 (k + 1) (updF g k ((1 * 2 ^ k : Nat) : Int)) (by omega) (fun b hb => by by_cases e : b = k; { rw [e, updF_s, Nat.one_mul] }; { rw [updF_n e]; exact h1 b (by omega) }) (by omega)
  refine V.locs [1, 2, 3, 4, 0] (ls' := [(0, vR 73), (1, vR 10), (2, vR 35), (3, vI ((hr : Nat) : Int)), (4, vI 0)]) rfl ?_
  exact lp24 _ 0 (hi 76) (by omega) (fun b hb => absurd hb (Nat.not_lt_zero b)) (Nat.lt_succ_self _)

set_option maxRecDepth 100000 in
theorem c_X5_slipsIn (hi hl : HI) (n : Nat) (r ss : Nat → Nat) (hr : Nat) (hTR : TR hi n r ss hr) (p : Nat) (hp : p < n) (Q : QT) (hT : (1 ≤ ss p ∧ ss p ≤ 3) → Q (some (vI 1)) KW hi hl) (hF : ¬ (1 ≤ ss p ∧ ss p ≤ 3) → Q (some (vI 0)) KW hi hl) : Con eX5_slipsIn [vR 73, vI (p : Nat)] KW hi hl Q := by
  refine Con.ofV (by decide +kernel) (Nat.le_of_ble_eq_true rfl) ?_
  show V eX5_slipsIn none KW 0 [(0, vR 73), (1, vI ((p : Nat) : Int))] [] hi hl 0 0 Q
  obtain ⟨t3, t4, tn, thr, trw⟩ := hTR
  obtain ⟨u1, u2, u3, u4⟩ := trw p hp
  refine V.aload_n (pc := 0) 0 dX5_slipsIn_0 rfl ?_
  refine V.gr (pc := 1) 5 1 75 flX5_15 dX5_slipsIn_1 (kS_73) (by decide) (by decide) rfl (kR_73_1) ?_
  refine V.iload_n (pc := 4) 1 dX5_slipsIn_4 rfl ?_
  refine V.ia (pc := 5) (len := 16) p ((ss p : Nat) : Int) dX5_slipsIn_5 (kS_75) (rfl) (by omega) (u2) ?_
  refine V.iconst (pc := 6) (z := 1) dX5_slipsIn_6 rfl ⟨by decide, by decide⟩ ?_
  refine V.icmp_lt (pc := 7) 24 dX5_slipsIn_7 (by decide) (fun h7 => ?_) (fun h7 => ?_)
  · skip
    refine V.iconst (pc := 24) (z := 0) dX5_slipsIn_24 rfl ⟨by decide, by decide⟩ ?_
    refine V.zret (pc := 25) (z := 0) dX5_slipsIn_25 rfl (Or.inl rfl) ?_
    first | exact hT (by omega) | exact hF (by omega)
  · skip
    refine V.aload_n (pc := 10) 0 dX5_slipsIn_10 rfl ?_
    refine V.gr (pc := 11) 5 1 75 flX5_15 dX5_slipsIn_11 (kS_73) (by decide) (by decide) rfl (kR_73_1) ?_
    refine V.iload_n (pc := 14) 1 dX5_slipsIn_14 rfl ?_
    refine V.ia (pc := 15) (len := 16) p (hi 75 p) dX5_slipsIn_15 (kS_75) (rfl) (by omega) (rfl) ?_
    refine V.iconst (pc := 16) (z := 3) dX5_slipsIn_16 rfl ⟨by decide, by decide⟩ ?_
    refine V.icmp_gt (pc := 17) 24 dX5_slipsIn_17 (by decide) (fun h17 => ?_) (fun h17 => ?_)
    · skip
      refine V.iconst (pc := 24) (z := 0) dX5_slipsIn_24 rfl ⟨by decide, by decide⟩ ?_
      refine V.zret (pc := 25) (z := 0) dX5_slipsIn_25 rfl (Or.inl rfl) ?_
      first | exact hT (by omega) | exact hF (by omega)
    · skip
      refine V.iconst (pc := 20) (z := 1) dX5_slipsIn_20 rfl ⟨by decide, by decide⟩ ?_
      refine V.goto (pc := 21) 25 dX5_slipsIn_21 (by decide) ?_
      refine V.zret (pc := 25) (z := 1) dX5_slipsIn_25 rfl (Or.inr rfl) ?_
      first | exact hT (by omega) | exact hF (by omega)

set_option maxRecDepth 100000 in
theorem c_X5_halves (hi hl : HI) (n : Nat) (r ss : Nat → Nat) (hr : Nat) (hTR : TR hi n r ss hr) (set : Nat) (hset : set < 64) (p : Nat) (hp : p < n) (Q : QT) (hq : Q (some (vI (b2i (halfF r ss set p)))) KW hi hl) : Con eX5_halves [vR 73, vI (set : Nat), vI (p : Nat)] KW hi hl Q := by
  refine Con.ofV (by decide +kernel) (Nat.le_of_ble_eq_true rfl) ?_
  show V eX5_halves none KW 0 [(0, vR 73), (1, vI ((set : Nat) : Int)), (2, vI ((p : Nat) : Int))] [] hi hl 0 0 Q
  obtain ⟨t3, t4, tn, thr, trw⟩ := hTR
  obtain ⟨u1, u2, u3, u4⟩ := trw p hp
  have hnl := nt_lt set hset (r p) u3
  refine V.iload_n (pc := 0) 1 dX5_halves_0 rfl ?_
  refine V.aload_n (pc := 1) 0 dX5_halves_1 rfl ?_
  refine V.gr (pc := 2) 5 0 74 flX5_9 dX5_halves_2 (kS_73) (by decide) (by decide) rfl (kR_73_0) ?_
  refine V.iload_n (pc := 5) 2 dX5_halves_5 rfl ?_
  refine V.ia (pc := 6) (len := 16) p ((r p : Nat) : Int) dX5_halves_6 (kS_74) (rfl) (by omega) (u1) ?_
  refine V.iconst (pc := 7) (z := (-1)) dX5_halves_7 rfl ⟨by decide, by decide⟩ ?_
  refine V.ixor (pc := 8) ((-1 - (r p : Int))) dX5_halves_8 (xm1 _ u3) ⟨by omega, by omega⟩ ?_
  refine V.iand (pc := 9) ((((nt_ set (r p)) : Nat) : Int)) dX5_halves_9 (nt_32 _ hset _ u3) (rI_n (by omega)) ?_
  refine V.istore_n (pc := 10) (i := 3) dX5_halves_10 rfl (by decide) (ls' := [(3, vI (((nt_ set (r p)) : Nat) : Int)), (0, vR 73), (1, vI ((set : Nat) : Int)), (2, vI ((p : Nat) : Int))]) rfl ?_
  refine V.iconst (pc := 11) (z := 0) dX5_halves_11 rfl ⟨by decide, by decide⟩ ?_
  refine V.istore (pc := 12) (i := 4) dX5_halves_12 (by decide) (ls' := [(4, vI 0), (3, vI (((nt_ set (r p)) : Nat) : Int)), (0, vR 73), (1, vI ((set : Nat) : Int)), (2, vI ((p : Nat) : Int))]) rfl ?_
  have lp14 : ∀ (fu14 : Nat) (k : Nat), (k ≤ p) → (∀ o, o < k → (decide (ss o = 2) && decide (set &&& r o = (nt_ set (r p)))) = false) → p - k < fu14 → V eX5_halves none KW 14 [(0, vR 73), (1, vI ((set : Nat) : Int)), (2, vI ((p : Nat) : Int)), (3, vI (((nt_ set (r p)) : Nat) : Int)), (4, vI ((k : Nat) : Int))] [] hi hl 0 0 Q := by
    intro fu14
    induction fu14 with
    | zero => intro k hk h1 hm14; exact absurd hm14 (Nat.not_lt_zero _)
    | succ fu14 ih14 =>
      intro k hk h1 hm14
      refine V.iload (pc := 14) 4 dX5_halves_14 rfl ?_
      refine V.iload_n (pc := 16) 2 dX5_halves_16 rfl ?_
      refine V.icmp_ge (pc := 17) 52 dX5_halves_17 (by decide) (fun h17 => ?_) (fun h17 => ?_)
      · skip
        refine V.iconst (pc := 52) (z := 0) dX5_halves_52 rfl ⟨by decide, by decide⟩ ?_
        refine V.zret (pc := 53) (z := 0) dX5_halves_53 rfl (Or.inl rfl) ?_
        rw [show halfF r ss set p = false from anyB_f (fun o ho => h1 o (by omega))] at hq
        exact hq
      · skip
        refine V.aload_n (pc := 20) 0 dX5_halves_20 rfl ?_
        refine V.gr (pc := 21) 5 1 75 flX5_15 dX5_halves_21 (kS_73) (by decide) (by decide) rfl (kR_73_1) ?_
        refine V.iload (pc := 24) 4 dX5_halves_24 rfl ?_
        obtain ⟨v1, v2, v3, v4⟩ := trw k (by omega)
        have hal := and64 set hset (r k) v3
        refine V.ia (pc := 26) (len := 16) k ((ss k : Nat) : Int) dX5_halves_26 (kS_75) (rfl) (by omega) (v2) ?_
        refine V.iconst (pc := 27) (z := 2) dX5_halves_27 rfl ⟨by decide, by decide⟩ ?_
        refine V.icmp_ne (pc := 28) 46 dX5_halves_28 (by decide) (fun h28 => ?_) (fun h28 => ?_)
        · skip
          refine V.iinc (pc := 46) (r := ((k + 1 : Nat) : Int)) 4 dX5_halves_46 rfl (w32_of (by omega) (by omega) (by omega)) (by decide) (ls' := [(4, vI ((k + 1 : Nat) : Int)), (0, vR 73), (1, vI ((set : Nat) : Int)), (2, vI ((p : Nat) : Int)), (3, vI (((nt_ set (r p)) : Nat) : Int))]) rfl ?_
          refine V.goto (pc := 49) 14 dX5_halves_49 (by decide) ?_
          refine V.locs [1, 2, 3, 4, 0] (ls' := [(0, vR 73), (1, vI ((set : Nat) : Int)), (2, vI ((p : Nat) : Int)), (3, vI (((nt_ set (r p)) : Nat) : Int)), (4, vI ((k + 1 : Nat) : Int))]) rfl ?_
          exact ih14 (k + 1) (by omega) (fun o ho => by by_cases e : o = k; { rw [e]; rw [decide_eq_false (show ¬ ss k = 2 by omega)]; rfl }; { exact h1 o (by omega) }) (by omega)
        · skip
          refine V.iload_n (pc := 31) 1 dX5_halves_31 rfl ?_
          refine V.aload_n (pc := 32) 0 dX5_halves_32 rfl ?_
          refine V.gr (pc := 33) 5 0 74 flX5_9 dX5_halves_33 (kS_73) (by decide) (by decide) rfl (kR_73_0) ?_
          refine V.iload (pc := 36) 4 dX5_halves_36 rfl ?_
          refine V.ia (pc := 38) (len := 16) k ((r k : Nat) : Int) dX5_halves_38 (kS_74) (rfl) (by omega) (v1) ?_
          refine V.iand (pc := 39) (((set &&& (r k) : Nat) : Int)) dX5_halves_39 (aN set (r k)) (rI_n (by omega)) ?_
          refine V.iload_n (pc := 40) 3 dX5_halves_40 rfl ?_
          refine V.icmp_ne (pc := 41) 46 dX5_halves_41 (by decide) (fun h41 => ?_) (fun h41 => ?_)
          · skip
            refine V.iinc (pc := 46) (r := ((k + 1 : Nat) : Int)) 4 dX5_halves_46 rfl (w32_of (by omega) (by omega) (by omega)) (by decide) (ls' := [(4, vI ((k + 1 : Nat) : Int)), (0, vR 73), (1, vI ((set : Nat) : Int)), (2, vI ((p : Nat) : Int)), (3, vI (((nt_ set (r p)) : Nat) : Int))]) rfl ?_
            refine V.goto (pc := 49) 14 dX5_halves_49 (by decide) ?_
            refine V.locs [1, 2, 3, 4, 0] (ls' := [(0, vR 73), (1, vI ((set : Nat) : Int)), (2, vI ((p : Nat) : Int)), (3, vI (((nt_ set (r p)) : Nat) : Int)), (4, vI ((k + 1 : Nat) : Int))]) rfl ?_
            exact ih14 (k + 1) (by omega) (fun o ho => by by_cases e : o = k; { rw [e]; rw [decide_eq_false (show ¬ (set &&& r k) = (nt_ set (r p)) by omega), Bool.and_false] }; { exact h1 o (by omega) }) (by omega)
          · skip
            refine V.iconst (pc := 44) (z := 1) dX5_halves_44 rfl ⟨by decide, by decide⟩ ?_
            refine V.zret (pc := 45) (z := 1) dX5_halves_45 rfl (Or.inr rfl) ?_
            rw [show halfF r ss set p = true from anyB_t (b := k) (by omega) (by rw [decide_eq_true (show ss k = 2 by omega), decide_eq_true (show (set &&& r k) = (nt_ set (r p)) by omega)]; rfl)] at hq
            exact hq
  refine V.locs [2, 3, 4, 1, 0] (ls' := [(0, vR 73), (1, vI ((set : Nat) : Int)), (2, vI ((p : Nat) : Int)), (3, vI (((nt_ set (r p)) : Nat) : Int)), (4, vI 0)]) rfl ?_
  exact lp14 _ 0 (by omega) (fun o ho => absurd ho (Nat.not_lt_zero o)) (Nat.lt_succ_self _)

set_option maxRecDepth 100000 in
theorem c_X5_tells (hi hl : HI) (n : Nat) (r ss : Nat → Nat) (hr : Nat) (hTR : TR hi n r ss hr) (birds : Nat) (hbi : birds < 64) (Q : QT) (hq : Q (some (vI (b2i (tellsF n r ss hr birds)))) KW hi hl) : Con eX5_tells [vR 73, vI (birds : Nat)] KW hi hl Q := by
  refine Con.ofV (by decide +kernel) (Nat.le_of_ble_eq_true rfl) ?_
  show V eX5_tells none KW 0 [(0, vR 73), (1, vI ((birds : Nat) : Int))] [] hi hl 0 0 Q
  have hTR2 := hTR
  obtain ⟨t3, t4, tn, thr, trw⟩ := hTR2
  have hset := and64 birds hbi hr thr
  refine V.iload_n (pc := 0) 1 dX5_tells_0 rfl ?_
  refine V.aload_n (pc := 1) 0 dX5_tells_1 rfl ?_
  refine V.gi (pc := 2) 5 4 ((hr : Nat) : Int) flX5_25 dX5_tells_2 (kS_73) (by decide) (by decide) rfl (t4) ?_
  refine V.iand (pc := 5) (((birds &&& hr : Nat) : Int)) dX5_tells_5 (aN birds hr) (rI_n (by omega)) ?_
  refine V.istore_n (pc := 6) (i := 2) dX5_tells_6 rfl (by decide) (ls' := [(2, vI ((birds &&& hr : Nat) : Int)), (0, vR 73), (1, vI ((birds : Nat) : Int))]) rfl ?_
  refine V.iload_n (pc := 7) 0 dX5_tells_7 rfl ?_
  refine V.if_ne (pc := 8) 13 dX5_tells_8 (by decide) (fun h8 => ?_) (fun h8 => ?_)
  · skip
    refine V.iconst (pc := 13) (z := 0) dX5_tells_13 rfl ⟨by decide, by decide⟩ ?_
    refine V.istore_n (pc := 14) (i := 3) dX5_tells_14 rfl (by decide) (ls' := [(3, vI 0), (2, vI ((birds &&& hr : Nat) : Int)), (0, vR 73), (1, vI ((birds : Nat) : Int))]) rfl ?_
    have lp15 : ∀ (fu15 : Nat) (k : Nat), (k ≤ n) → (∀ o, o < k → badP r ss (birds &&& hr) o = false) → n - k < fu15 → V eX5_tells none KW 15 [(0, vR 73), (2, vI (((birds &&& hr) : Nat) : Int)), (3, vI ((k : Nat) : Int))] [] hi hl 0 0 Q := by
      intro fu15
      induction fu15 with
      | zero => intro k hk h1 hm15; exact absurd hm15 (Nat.not_lt_zero _)
      | succ fu15 ih15 =>
        intro k hk h1 hm15
        refine V.iload_n (pc := 15) 2 dX5_tells_15 rfl ?_
        refine V.aload_n (pc := 16) 0 dX5_tells_16 rfl ?_
        refine V.gi (pc := 17) 5 3 ((n : Nat) : Int) flX5_21 dX5_tells_17 (kS_73) (by decide) (by decide) rfl (t3) ?_
        refine V.icmp_ge (pc := 20) 73 dX5_tells_20 (by decide) (fun h20 => ?_) (fun h20 => ?_)
        · skip
          refine V.iconst (pc := 73) (z := 1) dX5_tells_73 rfl ⟨by decide, by decide⟩ ?_
          refine V.zret (pc := 74) (z := 1) dX5_tells_74 rfl (Or.inr rfl) ?_
          rw [show tellsF n r ss hr birds = true by unfold tellsF; rw [decide_eq_true (show (birds &&& hr) ≠ 0 by omega), anyB_f (fun o ho => h1 o (by omega))]; rfl] at hq
          exact hq
        · skip
          refine V.aload_n (pc := 23) 0 dX5_tells_23 rfl ?_
          refine V.iload_n (pc := 24) 2 dX5_tells_24 rfl ?_
          obtain ⟨v1, v2, v3, v4⟩ := trw k (by omega)
          have hnl := nt_lt (birds &&& hr) hset (r k) v3
          refine V.callV (pc := 25) (e1 := eX5_slipsIn) (o := 73) (c := 5) 1 [vI ((k : Nat) : Int)] [] mfX5_slipsIn slX5_slipsIn mlX5_60 dX5_tells_25 (kS_73) (by decide) rfl rfl rfl (Nat.le_of_ble_eq_true rfl) ⟨by decide, by decide, by decide, by decide⟩ ?_
          refine c_X5_slipsIn hi hl n r ss hr hTR k (by omega) _ (fun hsl => ?_) (fun hsl => ?_)
          · skip
            refine V.qI (pc := 25) rfl rfl ?_
            refine V.if_eq (pc := 28) 46 dX5_tells_28 (by decide) (fun hc => by exact absurd hc (by decide)) (fun h28 => ?_)
            refine V.iload_n (pc := 31) 1 dX5_tells_31 rfl ?_
            refine V.aload_n (pc := 32) 0 dX5_tells_32 rfl ?_
            refine V.gr (pc := 33) 5 0 74 flX5_9 dX5_tells_33 (kS_73) (by decide) (by decide) rfl (kR_73_0) ?_
            refine V.iload_n (pc := 36) 2 dX5_tells_36 rfl ?_
            refine V.ia (pc := 37) (len := 16) k ((r k : Nat) : Int) dX5_tells_37 (kS_74) (rfl) (by omega) (v1) ?_
            refine V.iconst (pc := 38) (z := (-1)) dX5_tells_38 rfl ⟨by decide, by decide⟩ ?_
            refine V.ixor (pc := 39) ((-1 - (r k : Int))) dX5_tells_39 (xm1 _ v3) ⟨by omega, by omega⟩ ?_
            refine V.iand (pc := 40) (((nt_ (birds &&& hr) (r k) : Nat) : Int)) dX5_tells_40 (nt_32 _ hset _ v3) (rI_n (by omega)) ?_
            refine V.if_ne (pc := 41) 46 dX5_tells_41 (by decide) (fun h41 => ?_) (fun h41 => ?_)
            · have ha : (decide (1 ≤ ss k ∧ ss k ≤ 3) && decide (nt_ (birds &&& hr) (r k) = 0)) = false := by rw [decide_eq_false (show ¬ nt_ (birds &&& hr) (r k) = 0 by omega), Bool.and_false]
              refine V.aload_n (pc := 46) 0 dX5_tells_46 rfl ?_
              refine V.gr (pc := 47) 5 1 75 flX5_15 dX5_tells_47 (kS_73) (by decide) (by decide) rfl (kR_73_1) ?_
              refine V.iload_n (pc := 50) 2 dX5_tells_50 rfl ?_
              refine V.ia (pc := 51) (len := 16) k ((ss k : Nat) : Int) dX5_tells_51 (kS_75) (rfl) (by omega) (v2) ?_
              refine V.iconst (pc := 52) (z := 2) dX5_tells_52 rfl ⟨by decide, by decide⟩ ?_
              refine V.icmp_ne (pc := 53) 67 dX5_tells_53 (by decide) (fun h53 => ?_) (fun h53 => ?_)
              · have hbad : badP r ss (birds &&& hr) k = false := by unfold badP; rw [ha, decide_eq_false (show ¬ ss k = 2 by omega)]; rfl
                refine V.iinc (pc := 67) (r := ((k + 1 : Nat) : Int)) 2 dX5_tells_67 rfl (w32_of (by omega) (by omega) (by omega)) (by decide) (ls' := [(3, vI ((k + 1 : Nat) : Int)), (0, vR 73), (2, vI (((birds &&& hr) : Nat) : Int))]) rfl ?_
                refine V.goto (pc := 70) 15 dX5_tells_70 (by decide) ?_
                refine V.locs [1, 2, 0] (ls' := [(0, vR 73), (2, vI (((birds &&& hr) : Nat) : Int)), (3, vI ((k + 1 : Nat) : Int))]) rfl ?_
                exact ih15 (k + 1) (by omega) (fun o ho => by by_cases e : o = k; { rw [e]; exact hbad }; { exact h1 o (by omega) }) (by omega)
              · skip
                refine V.aload_n (pc := 56) 0 dX5_tells_56 rfl ?_
                refine V.iload_n (pc := 57) 1 dX5_tells_57 rfl ?_
                refine V.iload_n (pc := 58) 2 dX5_tells_58 rfl ?_
                refine V.callV (pc := 59) (e1 := eX5_halves) (o := 73) (c := 5) 2 [vI (((birds &&& hr) : Nat) : Int), vI ((k : Nat) : Int)] [] mfX5_halves slX5_halves mlX5_63 dX5_tells_59 (kS_73) (by decide) rfl rfl rfl (Nat.le_of_ble_eq_true rfl) ⟨by decide, by decide, by decide, by decide⟩ ?_
                refine c_X5_halves hi hl n r ss hr hTR (birds &&& hr) hset k (by omega) _ ?_
                refine V.qI (pc := 59) rfl rfl ?_
                refine V.if_eq (pc := 62) 67 dX5_tells_62 (by decide) (fun h62 => ?_) (fun h62 => ?_)
                · have hbad : badP r ss (birds &&& hr) k = false := by unfold badP; rw [ha, b2i_F h62, Bool.and_false]; rfl
                  refine V.iinc (pc := 67) (r := ((k + 1 : Nat) : Int)) 2 dX5_tells_67 rfl (w32_of (by omega) (by omega) (by omega)) (by decide) (ls' := [(3, vI ((k + 1 : Nat) : Int)), (0, vR 73), (2, vI (((birds &&& hr) : Nat) : Int))]) rfl ?_
                  refine V.goto (pc := 70) 15 dX5_tells_70 (by decide) ?_
                  refine V.locs [1, 2, 0] (ls' := [(0, vR 73), (2, vI (((birds &&& hr) : Nat) : Int)), (3, vI ((k + 1 : Nat) : Int))]) rfl ?_
                  exact ih15 (k + 1) (by omega) (fun o ho => by by_cases e : o = k; { rw [e]; exact hbad }; { exact h1 o (by omega) }) (by omega)
                · skip
                  refine V.iconst (pc := 65) (z := 0) dX5_tells_65 rfl ⟨by decide, by decide⟩ ?_
                  refine V.zret (pc := 66) (z := 0) dX5_tells_66 rfl (Or.inl rfl) ?_
                  have hba : badP r ss (birds &&& hr) k = true := by unfold badP; rw [b2i_T h62, decide_eq_true (show ss k = 2 by omega)]; exact Bool.or_true _
                  rw [show tellsF n r ss hr birds = false by unfold tellsF; rw [anyB_t (b := k) (by omega) hba, Bool.not_true, Bool.and_false]] at hq
                  exact hq
            · skip
              refine V.iconst (pc := 44) (z := 0) dX5_tells_44 rfl ⟨by decide, by decide⟩ ?_
              refine V.zret (pc := 45) (z := 0) dX5_tells_45 rfl (Or.inl rfl) ?_
              have hba : badP r ss (birds &&& hr) k = true := by unfold badP; rw [decide_eq_true hsl, decide_eq_true (show nt_ (birds &&& hr) (r k) = 0 by omega)]; rfl
              rw [show tellsF n r ss hr birds = false by unfold tellsF; rw [anyB_t (b := k) (by omega) hba, Bool.not_true, Bool.and_false]] at hq
              exact hq
          · skip
            refine V.qI (pc := 25) rfl rfl ?_
            refine V.if_eq (pc := 28) 46 dX5_tells_28 (by decide) (fun h28 => ?_) (fun hc => by exact absurd hc (by decide))
            have ha : (decide (1 ≤ ss k ∧ ss k ≤ 3) && decide (nt_ (birds &&& hr) (r k) = 0)) = false := by rw [decide_eq_false hsl]; rfl
            refine V.aload_n (pc := 46) 0 dX5_tells_46 rfl ?_
            refine V.gr (pc := 47) 5 1 75 flX5_15 dX5_tells_47 (kS_73) (by decide) (by decide) rfl (kR_73_1) ?_
            refine V.iload_n (pc := 50) 2 dX5_tells_50 rfl ?_
            refine V.ia (pc := 51) (len := 16) k ((ss k : Nat) : Int) dX5_tells_51 (kS_75) (rfl) (by omega) (v2) ?_
            refine V.iconst (pc := 52) (z := 2) dX5_tells_52 rfl ⟨by decide, by decide⟩ ?_
            refine V.icmp_ne (pc := 53) 67 dX5_tells_53 (by decide) (fun h53 => ?_) (fun h53 => ?_)
            · have hbad : badP r ss (birds &&& hr) k = false := by unfold badP; rw [ha, decide_eq_false (show ¬ ss k = 2 by omega)]; rfl
              refine V.iinc (pc := 67) (r := ((k + 1 : Nat) : Int)) 2 dX5_tells_67 rfl (w32_of (by omega) (by omega) (by omega)) (by decide) (ls' := [(3, vI ((k + 1 : Nat) : Int)), (0, vR 73), (2, vI (((birds &&& hr) : Nat) : Int))]) rfl ?_
              refine V.goto (pc := 70) 15 dX5_tells_70 (by decide) ?_
              refine V.locs [1, 2, 0] (ls' := [(0, vR 73), (2, vI (((birds &&& hr) : Nat) : Int)), (3, vI ((k + 1 : Nat) : Int))]) rfl ?_
              exact ih15 (k + 1) (by omega) (fun o ho => by by_cases e : o = k; { rw [e]; exact hbad }; { exact h1 o (by omega) }) (by omega)
            · skip
              refine V.aload_n (pc := 56) 0 dX5_tells_56 rfl ?_
              refine V.iload_n (pc := 57) 1 dX5_tells_57 rfl ?_
              refine V.iload_n (pc := 58) 2 dX5_tells_58 rfl ?_
              refine V.callV (pc := 59) (e1 := eX5_halves) (o := 73) (c := 5) 2 [vI (((birds &&& hr) : Nat) : Int), vI ((k : Nat) : Int)] [] mfX5_halves slX5_halves mlX5_63 dX5_tells_59 (kS_73) (by decide) rfl rfl rfl (Nat.le_of_ble_eq_true rfl) ⟨by decide, by decide, by decide, by decide⟩ ?_
              refine c_X5_halves hi hl n r ss hr hTR (birds &&& hr) hset k (by omega) _ ?_
              refine V.qI (pc := 59) rfl rfl ?_
              refine V.if_eq (pc := 62) 67 dX5_tells_62 (by decide) (fun h62 => ?_) (fun h62 => ?_)
              · have hbad : badP r ss (birds &&& hr) k = false := by unfold badP; rw [ha, b2i_F h62, Bool.and_false]; rfl
                refine V.iinc (pc := 67) (r := ((k + 1 : Nat) : Int)) 2 dX5_tells_67 rfl (w32_of (by omega) (by omega) (by omega)) (by decide) (ls' := [(3, vI ((k + 1 : Nat) : Int)), (0, vR 73), (2, vI (((birds &&& hr) : Nat) : Int))]) rfl ?_
                refine V.goto (pc := 70) 15 dX5_tells_70 (by decide) ?_
                refine V.locs [1, 2, 0] (ls' := [(0, vR 73), (2, vI (((birds &&& hr) : Nat) : Int)), (3, vI ((k + 1 : Nat) : Int))]) rfl ?_
                exact ih15 (k + 1) (by omega) (fun o ho => by by_cases e : o = k; { rw [e]; exact hbad }; { exact h1 o (by omega) }) (by omega)
              · skip
                refine V.iconst (pc := 65) (z := 0) dX5_tells_65 rfl ⟨by decide, by decide⟩ ?_
                refine V.zret (pc := 66) (z := 0) dX5_tells_66 rfl (Or.inl rfl) ?_
                have hba : badP r ss (birds &&& hr) k = true := by unfold badP; rw [b2i_T h62, decide_eq_true (show ss k = 2 by omega)]; exact Bool.or_true _
                rw [show tellsF n r ss hr birds = false by unfold tellsF; rw [anyB_t (b := k) (by omega) hba, Bool.not_true, Bool.and_false]] at hq
                exact hq
    refine V.locs [2, 1, 0] (ls' := [(0, vR 73), (2, vI ((birds &&& hr : Nat) : Int)), (3, vI 0)]) rfl ?_
    exact lp15 _ 0 (by omega) (fun o ho => absurd ho (Nat.not_lt_zero o)) (Nat.lt_succ_self _)
  · skip
    refine V.iconst (pc := 11) (z := 0) dX5_tells_11 rfl ⟨by decide, by decide⟩ ?_
    refine V.zret (pc := 12) (z := 0) dX5_tells_12 rfl (Or.inl rfl) ?_
    rw [show tellsF n r ss hr birds = false by unfold tellsF; rw [decide_eq_false (show ¬ ((birds &&& hr) ≠ 0) by omega)]; rfl] at hq
    exact hq

set_option maxRecDepth 100000 in
theorem c_X5_fewestBirds (hi hl : HI) (n : Nat) (r ss : Nat → Nat) (hr : Nat) (hTR : TR hi n r ss hr) (Q : QT) (hq : Q (some (vI (fbF (tellsF n r ss hr) 63))) KW hi hl) : Con eX5_fewestBirds [vR 73] KW hi hl Q := by
  refine Con.ofV (by decide +kernel) (Nat.le_of_ble_eq_true rfl) ?_
  show V eX5_fewestBirds none KW 0 [(0, vR 73)] [] hi hl 0 0 Q
  refine V.bipush (pc := 0) (z := (-6)) dX5_fewestBirds_0 (by decide +kernel) ⟨by decide, by decide⟩ ?_
  refine V.istore_n (pc := 2) (i := 1) dX5_fewestBirds_2 rfl (by decide) (ls' := [(1, vI (-6)), (0, vR 73)]) rfl ?_
  refine V.iconst (pc := 3) (z := 1) dX5_fewestBirds_3 rfl ⟨by decide, by decide⟩ ?_
  refine V.istore_n (pc := 4) (i := 2) dX5_fewestBirds_4 rfl (by decide) (ls' := [(2, vI 1), (1, vI (-6)), (0, vR 73)]) rfl ?_
  have lp5 : ∀ (fu5 : Nat) (k : Nat), (k ≤ 63) → 63 - k < fu5 → V eX5_fewestBirds none KW 5 [(0, vR 73), (1, vI (fbF (tellsF n r ss hr) k)), (2, vI ((k + 1 : Nat) : Int))] [] hi hl 0 0 Q := by
    intro fu5
    induction fu5 with
    | zero => intro k hk hm5; exact absurd hm5 (Nat.not_lt_zero _)
    | succ fu5 ih5 =>
      intro k hk hm5
      have hfb := fbF_b (tellsF n r ss hr) k
      refine V.iload_n (pc := 5) 2 dX5_fewestBirds_5 rfl ?_
      refine V.bipush (pc := 6) (z := 63) dX5_fewestBirds_6 (by decide +kernel) ⟨by decide, by decide⟩ ?_
      refine V.icmp_gt (pc := 8) 54 dX5_fewestBirds_8 (by decide) (fun h8 => ?_) (fun h8 => ?_)
      · skip
        refine V.iload_n (pc := 54) 1 dX5_fewestBirds_54 rfl ?_
        refine V.iret (pc := 55) (z := (fbF (tellsF n r ss hr) k)) dX5_fewestBirds_55 rfl ?_
        have e : k = 63 := by omega
        subst e
        exact hq
      · skip
        refine V.iload_n (pc := 11) 1 dX5_fewestBirds_11 rfl ?_
        refine V.bipush (pc := 12) (z := (-6)) dX5_fewestBirds_12 (by decide +kernel) ⟨by decide, by decide⟩ ?_
        refine V.icmp_eq (pc := 14) 28 dX5_fewestBirds_14 (by decide) (fun h14 => ?_) (fun h14 => ?_)
        · have hyes : (fbF (tellsF n r ss hr) k) = -6 ∨ bc (k + 1) < bc (fbF (tellsF n r ss hr) k).toNat := Or.inl (by omega)
          refine V.iconst (pc := 28) (z := 1) dX5_fewestBirds_28 rfl ⟨by decide, by decide⟩ ?_
          refine V.goto (pc := 29) 33 dX5_fewestBirds_29 (by decide) ?_
          refine V.istore_n (pc := 33) (i := 3) dX5_fewestBirds_33 rfl (by decide) (ls' := [(3, vI 1), (0, vR 73), (1, vI (fbF (tellsF n r ss hr) k)), (2, vI ((k + 1 : Nat) : Int))]) rfl ?_
          refine V.iload_n (pc := 34) 0 dX5_fewestBirds_34 rfl ?_
          refine V.if_eq (pc := 35) 48 dX5_fewestBirds_35 (by decide) (fun hc => by exact absurd hc (by decide)) (fun h35 => ?_)
          refine V.aload_n (pc := 38) 1 dX5_fewestBirds_38 rfl ?_
          refine V.iload_n (pc := 39) 3 dX5_fewestBirds_39 rfl ?_
          refine V.callV (pc := 40) (e1 := eX5_tells) (o := 73) (c := 5) 1 [vI ((k + 1 : Nat) : Int)] [] mfX5_tells slX5_tells mlX5_73 dX5_fewestBirds_40 (kS_73) (by decide) rfl rfl rfl (Nat.le_of_ble_eq_true rfl) ⟨by decide, by decide, by decide, by decide⟩ ?_
          refine c_X5_tells hi hl n r ss hr hTR (k + 1) (by omega) _ ?_
          refine V.qI (pc := 40) rfl rfl ?_
          refine V.if_eq (pc := 43) 48 dX5_fewestBirds_43 (by decide) (fun h43 => ?_) (fun h43 => ?_)
          · skip
            refine V.iinc (pc := 48) (r := ((k + 1 + 1 : Nat) : Int)) 3 dX5_fewestBirds_48 rfl (w32_of (by omega) (by omega) (by omega)) (by decide) (ls' := [(2, vI ((k + 1 + 1 : Nat) : Int)), (3, vI 1), (0, vR 73), (1, vI (fbF (tellsF n r ss hr) k))]) rfl ?_
            refine V.goto (pc := 51) 5 dX5_fewestBirds_51 (by decide) ?_
            refine V.locs [2, 3, 0] (ls' := [(0, vR 73), (1, vI (fbF (tellsF n r ss hr) k)), (2, vI ((k + 1 + 1 : Nat) : Int))]) rfl ?_
            have hE : fbF (tellsF n r ss hr) (k + 1) = (fbF (tellsF n r ss hr) k) := by rw [fbF_s, if_neg (fun q => by rw [b2i_F h43] at q; exact absurd q.2 (by decide))]
            rw [← hE]
            exact ih5 (k + 1) (by omega) (by omega)
          · skip
            refine V.iload_n (pc := 46) 3 dX5_fewestBirds_46 rfl ?_
            refine V.istore_n (pc := 47) (i := 1) dX5_fewestBirds_47 rfl (by decide) (ls' := [(1, vI ((k + 1 : Nat) : Int)), (3, vI 1), (0, vR 73), (2, vI ((k + 1 : Nat) : Int))]) rfl ?_
            refine V.iinc (pc := 48) (r := ((k + 1 + 1 : Nat) : Int)) 3 dX5_fewestBirds_48 rfl (w32_of (by omega) (by omega) (by omega)) (by decide) (ls' := [(2, vI ((k + 1 + 1 : Nat) : Int)), (1, vI ((k + 1 : Nat) : Int)), (3, vI 1), (0, vR 73)]) rfl ?_
            refine V.goto (pc := 51) 5 dX5_fewestBirds_51 (by decide) ?_
            refine V.locs [3, 1, 0] (ls' := [(0, vR 73), (1, vI ((k + 1 : Nat) : Int)), (2, vI ((k + 1 + 1 : Nat) : Int))]) rfl ?_
            have hE : fbF (tellsF n r ss hr) (k + 1) = ((k + 1 : Nat) : Int) := by rw [fbF_s, if_pos ⟨hyes, b2i_T h43⟩]
            rw [← hE]
            exact ih5 (k + 1) (by omega) (by omega)
        · skip
          refine V.iload_n (pc := 17) 2 dX5_fewestBirds_17 rfl ?_
          refine V.callS (pc := 18) (e1 := eJ6_bitCount_0f7a4) 1 [vI ((k + 1 : Nat) : Int)] [] mfJ6_bitCount_0f7a4 slJ6_bitCount_0f7a4 mlX5_67 dX5_fewestBirds_18 rfl rfl (Nat.le_of_ble_eq_true rfl) ⟨by decide, by decide, by decide, by decide⟩ ?_
          refine c_bitCount KW hi hl (k + 1) (by omega) _ ?_
          refine V.qI (pc := 18) rfl rfl ?_
          refine V.iload_n (pc := 21) 1 dX5_fewestBirds_21 rfl ?_
          refine V.top (v' := vI (((fbF (tellsF n r ss hr) k).toNat : Nat) : Int)) (by rw [Int.toNat_of_nonneg (by omega)]) ?_
          refine V.callS (pc := 22) (e1 := eJ6_bitCount_0f7a4) 1 [vI (((fbF (tellsF n r ss hr) k).toNat : Nat) : Int)] [vI ((bc (k + 1) : Nat) : Int)] mfJ6_bitCount_0f7a4 slJ6_bitCount_0f7a4 mlX5_67 dX5_fewestBirds_22 rfl rfl (Nat.le_of_ble_eq_true rfl) ⟨by decide, by decide, by decide, by decide⟩ ?_
          refine c_bitCount KW hi hl ((fbF (tellsF n r ss hr) k).toNat) (by omega) _ ?_
          refine V.qI (pc := 22) rfl rfl ?_
          refine V.icmp_ge (pc := 25) 32 dX5_fewestBirds_25 (by decide) (fun h25 => ?_) (fun h25 => ?_)
          · have hno : ¬ ((fbF (tellsF n r ss hr) k) = -6 ∨ bc (k + 1) < bc (fbF (tellsF n r ss hr) k).toNat) := by omega
            refine V.iconst (pc := 32) (z := 0) dX5_fewestBirds_32 rfl ⟨by decide, by decide⟩ ?_
            refine V.istore_n (pc := 33) (i := 3) dX5_fewestBirds_33 rfl (by decide) (ls' := [(3, vI 0), (0, vR 73), (1, vI (fbF (tellsF n r ss hr) k)), (2, vI ((k + 1 : Nat) : Int))]) rfl ?_
            refine V.iload_n (pc := 34) 0 dX5_fewestBirds_34 rfl ?_
            refine V.if_eq (pc := 35) 48 dX5_fewestBirds_35 (by decide) (fun h35 => ?_) (fun hc => by exact absurd hc (by decide))
            refine V.iinc (pc := 48) (r := ((k + 1 + 1 : Nat) : Int)) 3 dX5_fewestBirds_48 rfl (w32_of (by omega) (by omega) (by omega)) (by decide) (ls' := [(2, vI ((k + 1 + 1 : Nat) : Int)), (3, vI 0), (0, vR 73), (1, vI (fbF (tellsF n r ss hr) k))]) rfl ?_
            refine V.goto (pc := 51) 5 dX5_fewestBirds_51 (by decide) ?_
            refine V.locs [2, 3, 0] (ls' := [(0, vR 73), (1, vI (fbF (tellsF n r ss hr) k)), (2, vI ((k + 1 + 1 : Nat) : Int))]) rfl ?_
            have hE : fbF (tellsF n r ss hr) (k + 1) = (fbF (tellsF n r ss hr) k) := by rw [fbF_s, if_neg (fun q => hno q.1)]
            rw [← hE]
            exact ih5 (k + 1) (by omega) (by omega)
          · have hyes : (fbF (tellsF n r ss hr) k) = -6 ∨ bc (k + 1) < bc (fbF (tellsF n r ss hr) k).toNat := Or.inr (by omega)
            refine V.iconst (pc := 28) (z := 1) dX5_fewestBirds_28 rfl ⟨by decide, by decide⟩ ?_
            refine V.goto (pc := 29) 33 dX5_fewestBirds_29 (by decide) ?_
            refine V.istore_n (pc := 33) (i := 3) dX5_fewestBirds_33 rfl (by decide) (ls' := [(3, vI 1), (0, vR 73), (1, vI (fbF (tellsF n r ss hr) k)), (2, vI ((k + 1 : Nat) : Int))]) rfl ?_
            refine V.iload_n (pc := 34) 0 dX5_fewestBirds_34 rfl ?_
            refine V.if_eq (pc := 35) 48 dX5_fewestBirds_35 (by decide) (fun hc => by exact absurd hc (by decide)) (fun h35 => ?_)
            refine V.aload_n (pc := 38) 1 dX5_fewestBirds_38 rfl ?_
            refine V.iload_n (pc := 39) 3 dX5_fewestBirds_39 rfl ?_
            refine V.callV (pc := 40) (e1 := eX5_tells) (o := 73) (c := 5) 1 [vI ((k + 1 : Nat) : Int)] [] mfX5_tells slX5_tells mlX5_73 dX5_fewestBirds_40 (kS_73) (by decide) rfl rfl rfl (Nat.le_of_ble_eq_true rfl) ⟨by decide, by decide, by decide, by decide⟩ ?_
            refine c_X5_tells hi hl n r ss hr hTR (k + 1) (by omega) _ ?_
            refine V.qI (pc := 40) rfl rfl ?_
            refine V.if_eq (pc := 43) 48 dX5_fewestBirds_43 (by decide) (fun h43 => ?_) (fun h43 => ?_)
            · skip
              refine V.iinc (pc := 48) (r := ((k + 1 + 1 : Nat) : Int)) 3 dX5_fewestBirds_48 rfl (w32_of (by omega) (by omega) (by omega)) (by decide) (ls' := [(2, vI ((k + 1 + 1 : Nat) : Int)), (3, vI 1), (0, vR 73), (1, vI (fbF (tellsF n r ss hr) k))]) rfl ?_
              refine V.goto (pc := 51) 5 dX5_fewestBirds_51 (by decide) ?_
              refine V.locs [2, 3, 0] (ls' := [(0, vR 73), (1, vI (fbF (tellsF n r ss hr) k)), (2, vI ((k + 1 + 1 : Nat) : Int))]) rfl ?_
              have hE : fbF (tellsF n r ss hr) (k + 1) = (fbF (tellsF n r ss hr) k) := by rw [fbF_s, if_neg (fun q => by rw [b2i_F h43] at q; exact absurd q.2 (by decide))]
              rw [← hE]
              exact ih5 (k + 1) (by omega) (by omega)
            · skip
              refine V.iload_n (pc := 46) 3 dX5_fewestBirds_46 rfl ?_
              refine V.istore_n (pc := 47) (i := 1) dX5_fewestBirds_47 rfl (by decide) (ls' := [(1, vI ((k + 1 : Nat) : Int)), (3, vI 1), (0, vR 73), (2, vI ((k + 1 : Nat) : Int))]) rfl ?_
              refine V.iinc (pc := 48) (r := ((k + 1 + 1 : Nat) : Int)) 3 dX5_fewestBirds_48 rfl (w32_of (by omega) (by omega) (by omega)) (by decide) (ls' := [(2, vI ((k + 1 + 1 : Nat) : Int)), (1, vI ((k + 1 : Nat) : Int)), (3, vI 1), (0, vR 73)]) rfl ?_
              refine V.goto (pc := 51) 5 dX5_fewestBirds_51 (by decide) ?_
              refine V.locs [3, 1, 0] (ls' := [(0, vR 73), (1, vI ((k + 1 : Nat) : Int)), (2, vI ((k + 1 + 1 : Nat) : Int))]) rfl ?_
              have hE : fbF (tellsF n r ss hr) (k + 1) = ((k + 1 : Nat) : Int) := by rw [fbF_s, if_pos ⟨hyes, b2i_T h43⟩]
              rw [← hE]
              exact ih5 (k + 1) (by omega) (by omega)
  refine V.locs [2, 1, 0] (ls' := [(0, vR 73), (1, vI (-6)), (2, vI 1)]) rfl ?_
  exact lp5 _ 0 (by omega) (Nat.lt_succ_self _)

set_option maxRecDepth 100000 in
theorem c_X7_commonDivisor (K : KK) (hi hl : HI) (a b : Nat) (ha : a < 9223372036854775808) (hb : b < 9223372036854775808) (Q : QT) (hq : Q (some (vL (Nat.gcd a b : Nat))) K hi hl) : Con eX7_commonDivisor [vL (a : Nat), vL (b : Nat)] K hi hl Q := by
  refine Con.ofV (by decide +kernel) (Nat.le_of_ble_eq_true rfl) ?_
  show V eX7_commonDivisor none K 0 [(0, vL ((a : Nat) : Int)), (2, vL ((b : Nat) : Int))] [] hi hl 0 0 Q
  refine V.iconst (pc := 0) (z := 0) dX7_commonDivisor_0 rfl ⟨by decide, by decide⟩ ?_
  refine V.istore (pc := 1) (i := 4) dX7_commonDivisor_1 (by decide) (ls' := [(4, vI 0), (0, vL ((a : Nat) : Int)), (2, vL ((b : Nat) : Int))]) rfl ?_
  have lp3 : ∀ (fu3 : Nat) (k : Nat) (x : Nat) (y : Nat), (k ≤ 200) → (x < 9223372036854775808) → (y < 9223372036854775808) → (Nat.gcd x y = Nat.gcd a b) → ((k = 0 ∧ x = a ∧ y = b) ∨ (1 ≤ k ∧ y < x ∧ x * y * 2 ^ (k - 1) ≤ a * b)) → 200 - k < fu3 → V eX7_commonDivisor none K 3 [(0, vL ((x : Nat) : Int)), (2, vL ((y : Nat) : Int)), (4, vI ((k : Nat) : Int))] [] hi hl 0 0 Q := by
    intro fu3
    induction fu3 with
    | zero => intro k x y hk hx hy hg h2 hm3; exact absurd hm3 (Nat.not_lt_zero _)
    | succ fu3 ih3 =>
      intro k x y hk hx hy hg h2 hm3
      refine V.iload (pc := 3) 2 dX7_commonDivisor_3 rfl ?_
      refine V.sipush (pc := 5) (z := 200) dX7_commonDivisor_5 (by decide +kernel) ⟨by decide, by decide⟩ ?_
      refine V.icmp_ge (pc := 8) 33 dX7_commonDivisor_8 (by decide) (fun h8 => ?_) (fun h8 => ?_)
      · have hy0 : y = 0 := gcd_end ha hb (by omega) h2
        refine V.lload_n (pc := 33) 0 dX7_commonDivisor_33 rfl ?_
        refine V.lret (pc := 34) (z := ((x : Nat) : Int)) dX7_commonDivisor_34 rfl ?_
        rw [hy0, Nat.gcd_zero_right] at hg
        rw [← hg] at hq
        exact hq
      · skip
        refine V.lload_n (pc := 11) 1 dX7_commonDivisor_11 rfl ?_
        refine V.lconst (pc := 12) (z := 0) dX7_commonDivisor_12 (by decide +kernel) ⟨by decide, by decide⟩ ?_
        refine V.lcmp (pc := 13) dX7_commonDivisor_13 ?_
        refine V.if_eq (pc := 14) 33 dX7_commonDivisor_14 (by decide) (fun h14 => ?_) (fun h14 => ?_)
        · have hy0 : y = 0 := by have := h14; unfold lcmpI at this; split at this; { omega }; { split at this <;> omega }
          refine V.lload_n (pc := 33) 0 dX7_commonDivisor_33 rfl ?_
          refine V.lret (pc := 34) (z := ((x : Nat) : Int)) dX7_commonDivisor_34 rfl ?_
          rw [hy0, Nat.gcd_zero_right] at hg
          rw [← hg] at hq
          exact hq
        · have hy0 : 0 < y := by have := h14; unfold lcmpI at this; split at this; { omega }; { split at this <;> omega }
          have hml := Nat.mod_lt x hy0
          refine V.lload_n (pc := 17) 0 dX7_commonDivisor_17 rfl ?_
          refine V.lload_n (pc := 18) 1 dX7_commonDivisor_18 rfl ?_
          refine V.lrem (pc := 19) (((x % y : Nat) : Int)) dX7_commonDivisor_19 (by omega) (mNL (a := x) (b := y) (by omega) (by omega) (by omega)) (rL_n (by omega)) ?_
          refine V.lstore (pc := 20) (i := 5) dX7_commonDivisor_20 (by decide) (ls' := [(5, vL ((x % y : Nat) : Int)), (0, vL ((x : Nat) : Int)), (2, vL ((y : Nat) : Int)), (4, vI ((k : Nat) : Int))]) rfl ?_
          refine V.lload_n (pc := 22) 2 dX7_commonDivisor_22 rfl ?_
          refine V.lstore_n (pc := 23) (i := 0) dX7_commonDivisor_23 rfl (by decide) (ls' := [(0, vL ((y : Nat) : Int)), (5, vL ((x % y : Nat) : Int)), (2, vL ((y : Nat) : Int)), (4, vI ((k : Nat) : Int))]) rfl ?_
          refine V.lload (pc := 24) 1 dX7_commonDivisor_24 rfl ?_
          refine V.lstore_n (pc := 26) (i := 2) dX7_commonDivisor_26 rfl (by decide) (ls' := [(2, vL ((x % y : Nat) : Int)), (0, vL ((y : Nat) : Int)), (5, vL ((x % y : Nat) : Int)), (4, vI ((k : Nat) : Int))]) rfl ?_
          refine V.iinc (pc := 27) (r := ((k + 1 : Nat) : Int)) 3 dX7_commonDivisor_27 rfl (w32_of (by omega) (by omega) (by omega)) (by decide) (ls' := [(4, vI ((k + 1 : Nat) : Int)), (2, vL ((x % y : Nat) : Int)), (0, vL ((y : Nat) : Int)), (5, vL ((x % y : Nat) : Int))]) rfl ?_
          refine V.goto (pc := 30) 3 dX7_commonDivisor_30 (by decide) ?_
          refine V.locs [2, 1, 0] (ls' := [(0, vL ((y : Nat) : Int)), (2, vL ((x % y : Nat) : Int)), (4, vI ((k + 1 : Nat) : Int))]) rfl ?_
          exact ih3 (k + 1) y (x % y) (by omega) (hy) (by omega) (by rw [gcd_step]; exact hg) (gcd_inv hy0 h2) (by omega)
  refine V.locs [1, 2, 0] (ls' := [(0, vL ((a : Nat) : Int)), (2, vL ((b : Nat) : Int)), (4, vI 0)]) rfl ?_
  exact lp3 _ 0 a b (by omega) (ha) (hb) (rfl) (Or.inl ⟨rfl, rfl, rfl⟩) (Nat.lt_succ_self _)

