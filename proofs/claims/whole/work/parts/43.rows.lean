set_option maxRecDepth 100000 in
theorem c_X8_keepRow (hi hl : HI) (kp : Nat → Option Nat) (hk : ∀ b, b < 6 → hi 86 b = encM (kp b)) (hkl : ∀ b v, kp b = some v → v < 364) (cnt : Nat) (hcn : hi 77 21 = (cnt : Nat)) (hcl : cnt < 8000) (j : Nat) (Q : QT) (hq : Q none KW (upR (upR hi 77 (updF (hi 77) 21 ((cnt + 1 : Nat) : Int))) 91 (updF (hi 91) cnt (j : Nat))) (upR hl 90 (updF (hl 90) cnt ((rkF kp : Nat) : Int)))) : Con eX8_keepRow [vR 77, vI (j : Nat)] KW hi hl Q := by
  refine Con.ofV (by decide +kernel) (Nat.le_of_ble_eq_true rfl) ?_
  show V eX8_keepRow none KW 0 [(0, vR 77), (1, vI ((j : Nat) : Int))] [] hi hl 0 0 Q
  refine V.hieq (hi' := (upR (upR hi 77 (hi 77)) 91 (hi 91))) (by rw [upR_id, upR_id]) ?_
  refine V.hleq (hl' := (upR hl 90 (hl 90))) (by rw [upR_id]) ?_
  refine V.lconst (pc := 0) (z := 0) dX8_keepRow_0 (by decide +kernel) ⟨by decide, by decide⟩ ?_
  refine V.lstore_n (pc := 1) (i := 2) dX8_keepRow_1 rfl (by decide) (ls' := [(2, vL 0), (0, vR 77), (1, vI ((j : Nat) : Int))]) rfl ?_
  refine V.iconst (pc := 2) (z := 0) dX8_keepRow_2 rfl ⟨by decide, by decide⟩ ?_
  refine V.istore (pc := 3) (i := 4) dX8_keepRow_3 (by decide) (ls' := [(4, vI 0), (2, vL 0), (0, vR 77), (1, vI ((j : Nat) : Int))]) rfl ?_
  have lp5 : ∀ (fu5 : Nat) (b : Nat), (b ≤ 6) → 6 - b < fu5 → V eX8_keepRow none KW 5 [(0, vR 77), (1, vI ((j : Nat) : Int)), (2, vL (((encK (fun x => dgF (kp x)) b) : Nat) : Int)), (4, vI ((b : Nat) : Int))] [] (upR (upR hi 77 (hi 77)) 91 (hi 91)) (upR hl 90 (hl 90)) 0 0 Q := by
    intro fu5
    induction fu5 with
    | zero => intro b hb6 hm5; exact absurd hm5 (Nat.not_lt_zero _)
    | succ fu5 ih5 =>
      intro b hb6 hm5
      refine V.iload (pc := 5) 3 dX8_keepRow_5 rfl ?_
      refine V.bipush (pc := 7) (z := 6) dX8_keepRow_7 (by decide +kernel) ⟨by decide, by decide⟩ ?_
      refine V.icmp_ge (pc := 9) 48 dX8_keepRow_9 (by decide) (fun h9 => ?_) (fun h9 => ?_)
      · skip
        have e6 : b = 6 := by omega
        subst e6
        refine V.aload_n (pc := 48) 0 dX8_keepRow_48 rfl ?_
        refine V.gr (pc := 49) 8 19 90 flX8_48 dX8_keepRow_49 (kS_77) (by decide) (by decide) rfl (kR_77_19) ?_
        refine V.aload_n (pc := 52) 0 dX8_keepRow_52 rfl ?_
        refine V.gi (pc := 53) 8 21 ((cnt : Nat) : Int) flX8_214 dX8_keepRow_53 (kS_77) (by decide) (by decide) rfl (hcn) ?_
        refine V.lload_n (pc := 56) 2 dX8_keepRow_56 rfl ?_
        refine V.js (pc := 57) (len := 8000) (hl' := (upR hl 90 (updF (hl 90) cnt (((encK (fun x => dgF (kp x)) 6) : Nat) : Int)))) cnt dX8_keepRow_57 (kS_90) (rfl) (by omega) u1 ?_
        refine V.aload_n (pc := 58) 0 dX8_keepRow_58 rfl ?_
        refine V.gr (pc := 59) 8 20 91 flX8_51 dX8_keepRow_59 (kS_77) (by decide) (by decide) rfl (kR_77_20) ?_
        refine V.aload_n (pc := 62) 0 dX8_keepRow_62 rfl ?_
        refine V.gi (pc := 63) 8 21 ((cnt : Nat) : Int) flX8_214 dX8_keepRow_63 (kS_77) (by decide) (by decide) rfl (hcn) ?_
        refine V.iload_n (pc := 66) 1 dX8_keepRow_66 rfl ?_
        refine V.is (pc := 67) (len := 8000) (hi' := (upR (upR hi 77 (hi 77)) 91 (updF (hi 91) cnt ((j : Nat) : Int)))) cnt dX8_keepRow_67 (kS_91) (rfl) (by omega) u1 ?_
        refine V.aload_n (pc := 68) 0 dX8_keepRow_68 rfl ?_
        refine V.dup (pc := 69) dX8_keepRow_69 rfl ?_
        refine V.gi (pc := 70) 8 21 ((cnt : Nat) : Int) flX8_214 dX8_keepRow_70 (kS_77) (by decide) (by decide) rfl (hcn) ?_
        refine V.iconst (pc := 73) (z := 1) dX8_keepRow_73 rfl ⟨by decide, by decide⟩ ?_
        refine V.iadd (pc := 74) ((((cnt + 1) : Nat) : Int)) dX8_keepRow_74 (addN (a := cnt) (b := 1) (by omega)) ?_
        refine V.pi (pc := 75) (hi' := (upR (upR hi 77 (updF (hi 77) 21 (((cnt + 1) : Nat) : Int))) 91 (updF (hi 91) cnt ((j : Nat) : Int)))) 8 21 flX8_214 dX8_keepRow_75 (kS_77) (by decide) (by decide) rfl rfl (us (by decide) u1) ?_
        refine V.vret (pc := 78) dX8_keepRow_78 rfl ?_
        exact hq
      · have h45 := encK_45 (d := fun x => dgF (kp x)) (m := b) (show b ≤ 5 by omega) (fun x hx => dg_lt (hkl x))
        have h54 := encK_54 (d := fun x => dgF (kp x)) (m := b + 1) (by omega) (fun x hx => dg_lt (hkl x))
        refine V.lload_n (pc := 12) 2 dX8_keepRow_12 rfl ?_
        refine V.bipush (pc := 13) (z := 9) dX8_keepRow_13 (by decide +kernel) ⟨by decide, by decide⟩ ?_
        refine V.lshl (pc := 15) (((((encK (fun x => dgF (kp x)) b) * 512) : Nat) : Int)) dX8_keepRow_15 (shl9 _) (rL_n (by omega)) ?_
        refine V.aload_n (pc := 16) 0 dX8_keepRow_16 rfl ?_
        refine V.gr (pc := 17) 8 14 86 flX8_34 dX8_keepRow_17 (kS_77) (by decide) (by decide) rfl (kR_77_14) ?_
        refine V.iload (pc := 20) 3 dX8_keepRow_20 rfl ?_
        refine V.ia (pc := 22) (len := 6) b (encM (kp b)) dX8_keepRow_22 (kS_86) (rfl) (by omega) (hk b (by omega)) ?_
        refine V.if_ge (pc := 23) 32 dX8_keepRow_23 (by decide) (fun h23 => ?_) (fun h23 => ?_)
        · obtain ⟨v, hv⟩ := encM_s h23
          have hvl := hkl b v hv
          refine V.aload_n (pc := 32) 0 dX8_keepRow_32 rfl ?_
          refine V.gr (pc := 33) 8 14 86 flX8_34 dX8_keepRow_33 (kS_77) (by decide) (by decide) rfl (kR_77_14) ?_
          refine V.iload (pc := 36) 3 dX8_keepRow_36 rfl ?_
          refine V.ia (pc := 38) (len := 6) b ((v : Nat) : Int) dX8_keepRow_38 (kS_86) (rfl) (by omega) ((hk b (by omega)).trans (by rw [hv]; rfl)) ?_
          refine V.i2l (pc := 39) dX8_keepRow_39 ?_
          refine V.lor (pc := 40) ((((encK (fun x => dgF (kp x)) (b + 1)) : Nat) : Int)) dX8_keepRow_40 (by rw [encK_s, show dgF (kp b) = v by rw [hv]; rfl, ← or512 (by omega)]; exact oNL _ _) (rL_n (by omega)) ?_
          refine V.lstore_n (pc := 41) (i := 2) dX8_keepRow_41 rfl (by decide) (ls' := [(2, vL (((encK (fun x => dgF (kp x)) (b + 1)) : Nat) : Int)), (0, vR 77), (1, vI ((j : Nat) : Int)), (4, vI ((b : Nat) : Int))]) rfl ?_
          refine V.iinc (pc := 42) (r := ((b + 1 : Nat) : Int)) 3 dX8_keepRow_42 rfl (w32_of (by omega) (by omega) (by omega)) (by decide) (ls' := [(4, vI ((b + 1 : Nat) : Int)), (2, vL (((encK (fun x => dgF (kp x)) (b + 1)) : Nat) : Int)), (0, vR 77), (1, vI ((j : Nat) : Int))]) rfl ?_
          refine V.goto (pc := 45) 5 dX8_keepRow_45 (by decide) ?_
          refine V.locs [2, 3, 1, 0] (ls' := [(0, vR 77), (1, vI ((j : Nat) : Int)), (2, vL (((encK (fun x => dgF (kp x)) (b + 1)) : Nat) : Int)), (4, vI ((b + 1 : Nat) : Int))]) rfl ?_
          exact ih5 (b + 1) (by omega) (by omega)
        · have hv := encM_n h23
          refine V.sipush (pc := 26) (z := 511) dX8_keepRow_26 (by decide +kernel) ⟨by decide, by decide⟩ ?_
          refine V.goto (pc := 29) 39 dX8_keepRow_29 (by decide) ?_
          refine V.i2l (pc := 39) dX8_keepRow_39 ?_
          refine V.lor (pc := 40) ((((encK (fun x => dgF (kp x)) (b + 1)) : Nat) : Int)) dX8_keepRow_40 (by rw [encK_s, show dgF (kp b) = 511 by rw [hv]; rfl, ← or512 (by omega)]; exact oNL _ _) (rL_n (by omega)) ?_
          refine V.lstore_n (pc := 41) (i := 2) dX8_keepRow_41 rfl (by decide) (ls' := [(2, vL (((encK (fun x => dgF (kp x)) (b + 1)) : Nat) : Int)), (0, vR 77), (1, vI ((j : Nat) : Int)), (4, vI ((b : Nat) : Int))]) rfl ?_
          refine V.iinc (pc := 42) (r := ((b + 1 : Nat) : Int)) 3 dX8_keepRow_42 rfl (w32_of (by omega) (by omega) (by omega)) (by decide) (ls' := [(4, vI ((b + 1 : Nat) : Int)), (2, vL (((encK (fun x => dgF (kp x)) (b + 1)) : Nat) : Int)), (0, vR 77), (1, vI ((j : Nat) : Int))]) rfl ?_
          refine V.goto (pc := 45) 5 dX8_keepRow_45 (by decide) ?_
          refine V.locs [2, 3, 1, 0] (ls' := [(0, vR 77), (1, vI ((j : Nat) : Int)), (2, vL (((encK (fun x => dgF (kp x)) (b + 1)) : Nat) : Int)), (4, vI ((b + 1 : Nat) : Int))]) rfl ?_
          exact ih5 (b + 1) (by omega) (by omega)
  refine V.locs [2, 3, 1, 0] (ls' := [(0, vR 77), (1, vI ((j : Nat) : Int)), (2, vL 0), (4, vI 0)]) rfl ?_
  exact lp5 _ 0 (by omega) (Nat.lt_succ_self _)

set_option maxRecDepth 100000 in
theorem c_X8_manyOf (K : KK) (hi hl : HI) (n : Nat) (hn : 1 ≤ n ∧ n ≤ 3) (Q : QT) (hq : Q (some (vI (p3 n : Nat))) K hi hl) : Con eX8_manyOf [vI (n : Nat)] K hi hl Q := by
  refine Con.ofV (by decide +kernel) (Nat.le_of_ble_eq_true rfl) ?_
  show V eX8_manyOf none K 0 [(0, vI ((n : Nat) : Int))] [] hi hl 0 0 Q
  refine V.iload_n (pc := 0) 0 dX8_manyOf_0 rfl ?_
  refine V.iconst (pc := 1) (z := 1) dX8_manyOf_1 rfl ⟨by decide, by decide⟩ ?_
  refine V.icmp_ne (pc := 2) 9 dX8_manyOf_2 (by decide) (fun h2 => ?_) (fun h2 => ?_)
  · skip
    refine V.iload_n (pc := 9) 0 dX8_manyOf_9 rfl ?_
    refine V.iconst (pc := 10) (z := 2) dX8_manyOf_10 rfl ⟨by decide, by decide⟩ ?_
    refine V.icmp_ne (pc := 11) 19 dX8_manyOf_11 (by decide) (fun h11 => ?_) (fun h11 => ?_)
    · skip
      refine V.bipush (pc := 19) (z := 27) dX8_manyOf_19 (by decide +kernel) ⟨by decide, by decide⟩ ?_
      refine V.iret (pc := 21) (z := 27) dX8_manyOf_21 rfl ?_
      have e : n = 3 := by omega
      subst e
      exact hq
    · skip
      refine V.bipush (pc := 14) (z := 9) dX8_manyOf_14 (by decide +kernel) ⟨by decide, by decide⟩ ?_
      refine V.goto (pc := 16) 21 dX8_manyOf_16 (by decide) ?_
      refine V.iret (pc := 21) (z := 9) dX8_manyOf_21 rfl ?_
      have e : n = 2 := by omega
      subst e
      exact hq
  · skip
    refine V.iconst (pc := 5) (z := 3) dX8_manyOf_5 rfl ⟨by decide, by decide⟩ ?_
    refine V.goto (pc := 6) 21 dX8_manyOf_6 (by decide) ?_
    refine V.iret (pc := 21) (z := 3) dX8_manyOf_21 rfl ?_
    have e : n = 1 := by omega
    subst e
    exact hq

set_option maxRecDepth 100000 in
theorem c_X8_slipsAt (hi hl : HI) (σ : SG) (hC : MR hi σ) (B : Nat) (hB : B < 364) (p : Nat) (hp : p < nn σ) (Q : QT) (hq : ∀ f77 f86 f87 f78 f79 : Nat → Int, (∀ j, j ≠ 1 → j ≠ 3 → j ≠ 15 → f77 j = hi 77 j) → Q (some (vI (sNF σ B p : Nat))) KW (upR (upR (upR (upR (upR hi 77 f77) 86 f86) 87 f87) 78 f78) 79 f79) hl) : Con eX8_slipsAt [vR 77, vI (B : Nat), vI (p : Nat)] KW hi hl Q := by
  refine Con.ofV (by decide +kernel) (Nat.le_of_ble_eq_true rfl) ?_
  show V eX8_slipsAt none KW 0 [(0, vR 77), (1, vI ((B : Nat) : Int)), (2, vI ((p : Nat) : Int))] [] hi hl 0 0 Q
  refine V.hieq (hi' := (upR (upR (upR (upR (upR hi 77 (hi 77)) 86 (hi 86)) 87 (hi 87)) 78 (hi 78)) 79 (hi 79))) (by rw [upR_id, upR_id, upR_id, upR_id, upR_id]) ?_
  have hwf := hC.1
  have hn16 := hwf.2.2.1
  have hpp := hwf.2.2.2.1 p hp
  have hCp := hC.2.2.2.2.1 p hp
  have hso := hwf.1 (he σ p) (by omega)
  refine V.aload_n (pc := 0) 0 dX8_slipsAt_0 rfl ?_
  refine V.callV (pc := 1) (e1 := eX8_forget) (o := 77) (c := 8) 0 [] [] mfX8_forget slX8_forget mlX8_157 dX8_slipsAt_1 (kS_77) (by decide) rfl rfl rfl (Nat.le_of_ble_eq_true rfl) ⟨by decide, by decide, by decide, by decide⟩ ?_
  refine c_X8_forget (upR (upR (upR (upR (upR hi 77 (hi 77)) 86 (hi 86)) 87 (hi 87)) 78 (hi 78)) 79 (hi 79)) hl _ (fun fF hFo => ?_)
  refine V.qV (pc := 1) rfl rfl ?_
  refine V.hieq (hi' := (upR (upR (upR (upR (upR hi 77 (hi 77)) 86 fF) 87 (hi 87)) 78 (hi 78)) 79 (hi 79))) (rs (by decide) (rs (by decide) (rs (by decide) r1))) ?_
  refine V.aload_n (pc := 4) 0 dX8_slipsAt_4 rfl ?_
  refine V.iconst (pc := 5) (z := 0) dX8_slipsAt_5 rfl ⟨by decide, by decide⟩ ?_
  refine V.pi (pc := 6) (hi' := (upR (upR (upR (upR (upR hi 77 (updF (hi 77) 15 0)) 86 fF) 87 (hi 87)) 78 (hi 78)) 79 (hi 79))) 8 15 flX8_150 dX8_slipsAt_6 (kS_77) (by decide) (by decide) rfl rfl (us (by decide) (us (by decide) (us (by decide) (us (by decide) u1)))) ?_
  refine V.iconst (pc := 9) (z := 0) dX8_slipsAt_9 rfl ⟨by decide, by decide⟩ ?_
  refine V.istore_n (pc := 10) (i := 3) dX8_slipsAt_10 rfl (by decide) (ls' := [(3, vI 0), (0, vR 77), (1, vI ((B : Nat) : Int)), (2, vI ((p : Nat) : Int))]) rfl ?_
  have lp11 : ∀ (fu11 : Nat) (k : Nat) (r77 : Nat → Int) (r86 : Nat → Int) (r87 : Nat → Int) (r78 : Nat → Int) (r79 : Nat → Int), (k ≤ p) → (∀ j, j ≠ 1 → j ≠ 3 → j ≠ 15 → r77 j = hi 77 j) → (WM r77 r86 r87 (wrun σ B true (fun _ => 0) wZ k) k) → p - k < fu11 → V eX8_slipsAt none KW 11 [(0, vR 77), (1, vI ((B : Nat) : Int)), (2, vI ((p : Nat) : Int)), (3, vI ((k : Nat) : Int))] [] (upR (upR (upR (upR (upR hi 77 r77) 86 r86) 87 r87) 78 r78) 79 r79) hl 0 0 Q := by
    intro fu11
    induction fu11 with
    | zero => intro k r77 r86 r87 r78 r79 hk hr hW hm11; exact absurd hm11 (Nat.not_lt_zero _)
    | succ fu11 ih11 =>
      intro k r77 r86 r87 r78 r79 hk hr hW hm11
      refine V.iload_n (pc := 11) 3 dX8_slipsAt_11 rfl ?_
      refine V.iload_n (pc := 12) 2 dX8_slipsAt_12 rfl ?_
      refine V.icmp_ge (pc := 13) 30 dX8_slipsAt_13 (by decide) (fun h13 => ?_) (fun h13 => ?_)
      · skip
        have ekp : k = p := by omega
        subst ekp
        have hhe := hears_run (b := B) (bys := fun _ => 0) hp
        have hz := run_z (B := B) (bys := fun _ => 0) hwf k (by omega) (fun _ _ => rfl)
        refine V.aload_n (pc := 30) 0 dX8_slipsAt_30 rfl ?_
        refine V.iload_n (pc := 31) 2 dX8_slipsAt_31 rfl ?_
        refine V.iconst (pc := 32) (z := 1) dX8_slipsAt_32 rfl ⟨by decide, by decide⟩ ?_
        refine V.callV (pc := 33) (e1 := eX8_hears) (o := 77) (c := 8) 2 [vI ((k : Nat) : Int), vI 1] [] mfX8_hears slX8_hears mlX8_153 dX8_slipsAt_33 (kS_77) (by decide) rfl rfl rfl (Nat.le_of_ble_eq_true rfl) ⟨by decide, by decide, by decide, by decide⟩ ?_
        refine c_X8_hears (upR (upR (upR (upR (upR hi 77 r77) 86 r86) 87 r87) 78 r78) 79 r79) hl σ (MR_up hC (hr 8 (by decide) (by decide) (by decide)) (hr 9 (by decide) (by decide) (by decide)) (hr 11 (by decide) (by decide) (by decide)) rfl rfl rfl rfl rfl) (wrun σ B true (fun _ => 0) wZ k) k (by omega) hW true _ ?_
        refine V.qI (pc := 33) rfl rfl ?_
        refine V.if_ne (pc := 36) 41 dX8_slipsAt_36 (by decide) (fun h36 => ?_) (fun h36 => ?_)
        · have hHt := b2i_T h36
          have hHf : heardF σ k = true := by rw [← hhe]; exact hHt
          have hsz := said_z hpp.1 hHt hz
          have hhr := hB_heard hpp.1 hHt
          refine V.aload_n (pc := 41) 0 dX8_slipsAt_41 rfl ?_
          refine V.aload_n (pc := 42) 0 dX8_slipsAt_42 rfl ?_
          refine V.gr (pc := 43) 8 4 80 flX8_16 dX8_slipsAt_43 (kS_77) (by decide) (by decide) rfl (kR_77_4) ?_
          refine V.aload_n (pc := 46) 0 dX8_slipsAt_46 rfl ?_
          refine V.gr (pc := 47) 8 6 82 flX8_22 dX8_slipsAt_47 (kS_77) (by decide) (by decide) rfl (kR_77_6) ?_
          refine V.iload_n (pc := 50) 2 dX8_slipsAt_50 rfl ?_
          refine V.ia (pc := 51) (len := 16) k ((he σ k : Nat) : Int) dX8_slipsAt_51 (kS_82) (rfl) (by omega) (hCp.2.1) ?_
          refine V.ia (pc := 52) (len := 6) (he σ k) ((so σ (he σ k) : Nat) : Int) dX8_slipsAt_52 (kS_80) (rfl) (by omega) (hC.2.1 _ (by omega)) ?_
          refine V.aload_n (pc := 53) 0 dX8_slipsAt_53 rfl ?_
          refine V.gr (pc := 54) 8 5 81 flX8_19 dX8_slipsAt_54 (kS_77) (by decide) (by decide) rfl (kR_77_5) ?_
          refine V.iload_n (pc := 57) 2 dX8_slipsAt_57 rfl ?_
          refine V.ia (pc := 58) (len := 16) k ((sp' σ k : Nat) : Int) dX8_slipsAt_58 (kS_81) (rfl) (by omega) (hCp.1) ?_
          refine V.bipush (pc := 59) (z := 6) dX8_slipsAt_59 (by decide +kernel) ⟨by decide, by decide⟩ ?_
          refine V.icmp_ne (pc := 61) 68 dX8_slipsAt_61 (by decide) (fun h61 => ?_) (fun h61 => ?_)
          · skip
            refine V.aload_n (pc := 68) 0 dX8_slipsAt_68 rfl ?_
            refine V.gr (pc := 69) 8 14 86 flX8_34 dX8_slipsAt_69 (kS_77) (by decide) (by decide) rfl (kR_77_14) ?_
            refine V.aload_n (pc := 72) 0 dX8_slipsAt_72 rfl ?_
            refine V.gr (pc := 73) 8 5 81 flX8_19 dX8_slipsAt_73 (kS_77) (by decide) (by decide) rfl (kR_77_5) ?_
            refine V.iload_n (pc := 76) 2 dX8_slipsAt_76 rfl ?_
            refine V.ia (pc := 77) (len := 16) k ((sp' σ k : Nat) : Int) dX8_slipsAt_77 (kS_81) (rfl) (by omega) (hCp.1) ?_
            obtain ⟨hlt6, v, hv⟩ : sp' σ k < 6 ∧ ∃ v, (wrun σ B true (fun _ => 0) wZ k).1 (sp' σ k) = some v := by rcases hhr with q | q; { omega }; { exact q }
            refine V.ia (pc := 78) (len := 6) (sp' σ k) ((B : Nat) : Int) dX8_slipsAt_78 (kS_86) (rfl) (by omega) (by show r86 (sp' σ k) = _; rw [hW.2.1 _ hlt6, hv]; rcases hz (sp' σ k) with q | q; { rw [hv] at q; cases q }; { rw [hv] at q; cases q; rfl }) ?_
            refine V.callV (pc := 79) (e1 := eX8_findSlips) (o := 77) (c := 8) 2 [vI ((so σ (he σ k) : Nat) : Int), vI ((B : Nat) : Int)] [] mfX8_findSlips slX8_findSlips mlX8_144 dX8_slipsAt_79 (kS_77) (by decide) rfl rfl rfl (Nat.le_of_ble_eq_true rfl) ⟨by decide, by decide, by decide, by decide⟩ ?_
            refine c_X8_findSlips (upR (upR (upR (upR (upR hi 77 r77) 86 r86) 87 r87) 78 r78) 79 r79) hl (so σ (he σ k)) B (by omega) (by omega) _ (fun fs gs gw hs1 hs2 hs3 => ?_)
            have hs1 : ∀ j, j ≠ 1 → j ≠ 3 → fs j = r77 j := hs1
            refine V.qV (pc := 79) rfl rfl ?_
            refine V.hieq (hi' := (upR (upR (upR (upR (upR hi 77 fs) 86 r86) 87 r87) 78 gw) 79 gs)) ((upR_c ((upR_c (rs (by decide) (rs (by decide) (rs (by decide) (rs (by decide) r1))))).trans (rs (by decide) r1))).trans r1) ?_
            refine V.aload_n (pc := 82) 0 dX8_slipsAt_82 rfl ?_
            refine V.gi (pc := 83) 8 3 ((slN (so σ (he σ k)) B : Nat) : Int) flX8_90 dX8_slipsAt_83 (kS_77) (by decide) (by decide) rfl (hs2) ?_
            refine V.iret (pc := 86) (z := ((slN (so σ (he σ k)) B : Nat) : Int)) dX8_slipsAt_86 rfl ?_
            rw [show sNF σ B k = slN (so σ (he σ k)) B by unfold sNF; rw [if_pos hHf]] at hq
            exact hq _ _ _ _ _ (fun j h1 h3 h15 => (hs1 j h1 h3).trans (hr j h1 h3 h15))
          · skip
            refine V.iload_n (pc := 64) 1 dX8_slipsAt_64 rfl ?_
            refine V.goto (pc := 65) 79 dX8_slipsAt_65 (by decide) ?_
            refine V.callV (pc := 79) (e1 := eX8_findSlips) (o := 77) (c := 8) 2 [vI ((so σ (he σ k) : Nat) : Int), vI ((B : Nat) : Int)] [] mfX8_findSlips slX8_findSlips mlX8_144 dX8_slipsAt_79 (kS_77) (by decide) rfl rfl rfl (Nat.le_of_ble_eq_true rfl) ⟨by decide, by decide, by decide, by decide⟩ ?_
            refine c_X8_findSlips (upR (upR (upR (upR (upR hi 77 r77) 86 r86) 87 r87) 78 r78) 79 r79) hl (so σ (he σ k)) B (by omega) (by omega) _ (fun fs gs gw hs1 hs2 hs3 => ?_)
            have hs1 : ∀ j, j ≠ 1 → j ≠ 3 → fs j = r77 j := hs1
            refine V.qV (pc := 79) rfl rfl ?_
            refine V.hieq (hi' := (upR (upR (upR (upR (upR hi 77 fs) 86 r86) 87 r87) 78 gw) 79 gs)) ((upR_c ((upR_c (rs (by decide) (rs (by decide) (rs (by decide) (rs (by decide) r1))))).trans (rs (by decide) r1))).trans r1) ?_
            refine V.aload_n (pc := 82) 0 dX8_slipsAt_82 rfl ?_
            refine V.gi (pc := 83) 8 3 ((slN (so σ (he σ k)) B : Nat) : Int) flX8_90 dX8_slipsAt_83 (kS_77) (by decide) (by decide) rfl (hs2) ?_
            refine V.iret (pc := 86) (z := ((slN (so σ (he σ k)) B : Nat) : Int)) dX8_slipsAt_86 rfl ?_
            rw [show sNF σ B k = slN (so σ (he σ k)) B by unfold sNF; rw [if_pos hHf]] at hq
            exact hq _ _ _ _ _ (fun j h1 h3 h15 => (hs1 j h1 h3).trans (hr j h1 h3 h15))
        · have hHf := b2i_F (show b2i (hearsB σ true (wrun σ B true (fun _ => 0) wZ k) k) = 0 by omega)
          rw [hhe] at hHf
          refine V.iconst (pc := 39) (z := 0) dX8_slipsAt_39 rfl ⟨by decide, by decide⟩ ?_
          refine V.iret (pc := 40) (z := 0) dX8_slipsAt_40 rfl ?_
          rw [show sNF σ B k = 0 by unfold sNF; rw [hHf]; rfl] at hq
          exact hq _ _ _ _ _ hr
      · skip
        refine V.aload_n (pc := 16) 0 dX8_slipsAt_16 rfl ?_
        refine V.iload_n (pc := 17) 3 dX8_slipsAt_17 rfl ?_
        refine V.iload_n (pc := 18) 1 dX8_slipsAt_18 rfl ?_
        refine V.iconst (pc := 19) (z := 1) dX8_slipsAt_19 rfl ⟨by decide, by decide⟩ ?_
        refine V.iconst (pc := 20) (z := 0) dX8_slipsAt_20 rfl ⟨by decide, by decide⟩ ?_
        refine V.callV (pc := 21) (e1 := eX8_go) (o := 77) (c := 8) 4 [vI ((k : Nat) : Int), vI ((B : Nat) : Int), vI 1, vI 0] [] mfX8_go slX8_go mlX8_160 dX8_slipsAt_21 (kS_77) (by decide) rfl rfl rfl (Nat.le_of_ble_eq_true rfl) ⟨by decide, by decide, by decide, by decide⟩ ?_
        refine c_X8_go (upR (upR (upR (upR (upR hi 77 r77) 86 r86) 87 r87) 78 r78) 79 r79) hl σ (MR_up hC (hr 8 (by decide) (by decide) (by decide)) (hr 9 (by decide) (by decide) (by decide)) (hr 11 (by decide) (by decide) (by decide)) rfl rfl rfl rfl rfl) (wrun σ B true (fun _ => 0) wZ k) k (by omega) hW B (by omega) true 0 _ (fun f77 f86 f87 f78 f79 hgo hgW => ?_)
        refine V.qV (pc := 21) rfl rfl ?_
        refine V.hieq (hi' := (upR (upR (upR (upR (upR hi 77 f77) 86 f86) 87 f87) 78 f78) 79 f79)) ((upR_c ((upR_c ((upR_c ((upR_c (rs (by decide) (rs (by decide) (rs (by decide) (rs (by decide) r1))))).trans (rs (by decide) (rs (by decide) (rs (by decide) r1))))).trans (rs (by decide) (rs (by decide) r1)))).trans (rs (by decide) r1))).trans r1) ?_
        refine V.iinc (pc := 24) (r := ((k + 1 : Nat) : Int)) 3 dX8_slipsAt_24 rfl (w32_of (by omega) (by omega) (by omega)) (by decide) (ls' := [(3, vI ((k + 1 : Nat) : Int)), (0, vR 77), (1, vI ((B : Nat) : Int)), (2, vI ((p : Nat) : Int))]) rfl ?_
        refine V.goto (pc := 27) 11 dX8_slipsAt_27 (by decide) ?_
        refine V.locs [1, 2, 3, 0] (ls' := [(0, vR 77), (1, vI ((B : Nat) : Int)), (2, vI ((p : Nat) : Int)), (3, vI ((k + 1 : Nat) : Int))]) rfl ?_
        exact ih11 (k + 1) f77 f86 f87 f78 f79 (by omega) (fun j h1 h3 h15 => (hgo j h1 h3 h15).trans (hr j h1 h3 h15)) (hgW) (by omega)
  refine V.locs [1, 2, 3, 0] (ls' := [(0, vR 77), (1, vI ((B : Nat) : Int)), (2, vI ((p : Nat) : Int)), (3, vI 0)]) rfl ?_
  exact lp11 _ 0 (updF (hi 77) 15 0) fF (hi 87) (hi 78) (hi 79) (by omega) (fun j _ _ h15 => updF_n h15) (⟨okW_Z, hFo, fun j hj => absurd hj (Nat.not_lt_zero j), updF_s⟩) (Nat.lt_succ_self _)

set_option maxRecDepth 100000 in
theorem c_X8_findRows (hi hl : HI) (σ : SG) (hC : MR hi σ) (n : Nat) (hn : 1 ≤ n ∧ n ≤ 3) (Q : QT) (hq : ∀ (cnt : Nat) (f77 f86 f87 f78 f79 f91 f90 : Nat → Int), (∀ j, j ≠ 1 → j ≠ 3 → j ≠ 15 → j ≠ 21 → f77 j = hi 77 j) → f77 21 = (cnt : Nat) → cnt < 8000 → RP f90 f91 cnt (MJF σ n (p3 n)) → Q none KW (upR (upR (upR (upR (upR (upR hi 77 f77) 86 f86) 87 f87) 78 f78) 79 f79) 91 f91) (upR hl 90 f90)) : Con eX8_findRows [vR 77, vI (n : Nat)] KW hi hl Q := by
  refine Con.ofV (by decide +kernel) (Nat.le_of_ble_eq_true rfl) ?_
  show V eX8_findRows none KW 0 [(0, vR 77), (1, vI ((n : Nat) : Int))] [] hi hl 0 0 Q
  refine V.hieq (hi' := (upR (upR (upR (upR (upR (upR hi 77 (hi 77)) 86 (hi 86)) 87 (hi 87)) 78 (hi 78)) 79 (hi 79)) 91 (hi 91))) (by rw [upR_id, upR_id, upR_id, upR_id, upR_id, upR_id]) ?_
  refine V.hleq (hl' := (upR hl 90 (hl 90))) (by rw [upR_id]) ?_
  have hwf := hC.1
  have hn16 := hwf.2.2.1
  have hp27 : p3 n ≤ 27 := by rcases (show n = 1 ∨ n = 2 ∨ n = 3 by omega) with e | e | e <;> subst e <;> decide
  refine V.aload_n (pc := 0) 0 dX8_findRows_0 rfl ?_
  refine V.iconst (pc := 1) (z := 0) dX8_findRows_1 rfl ⟨by decide, by decide⟩ ?_
  refine V.pi (pc := 2) (hi' := (upR (upR (upR (upR (upR (upR hi 77 (updF (hi 77) 21 0)) 86 (hi 86)) 87 (hi 87)) 78 (hi 78)) 79 (hi 79)) 91 (hi 91))) 8 21 flX8_214 dX8_findRows_2 (kS_77) (by decide) (by decide) rfl rfl (us (by decide) (us (by decide) (us (by decide) (us (by decide) (us (by decide) u1))))) ?_
  refine V.iconst (pc := 5) (z := 0) dX8_findRows_5 rfl ⟨by decide, by decide⟩ ?_
  refine V.istore_n (pc := 6) (i := 2) dX8_findRows_6 rfl (by decide) (ls' := [(2, vI 0), (0, vR 77), (1, vI ((n : Nat) : Int))]) rfl ?_
  have lp7 : ∀ (fu7 : Nat) (J : Nat) (c1 : Nat) (r77 : Nat → Int) (r86 : Nat → Int) (r87 : Nat → Int) (r78 : Nat → Int) (r79 : Nat → Int) (r91 : Nat → Int) (r90 : Nat → Int), (J ≤ p3 n) → (∀ j, j ≠ 1 → j ≠ 3 → j ≠ 15 → j ≠ 21 → r77 j = hi 77 j) → (r77 21 = (c1 : Nat)) → (c1 ≤ 241 * J) → (RP r90 r91 c1 (MJF σ n J)) → p3 n - J < fu7 → V eX8_findRows none KW 7 [(0, vR 77), (1, vI ((n : Nat) : Int)), (2, vI ((J : Nat) : Int))] [] (upR (upR (upR (upR (upR (upR hi 77 r77) 86 r86) 87 r87) 78 r78) 79 r79) 91 r91) (upR hl 90 r90) 0 0 Q := by
    intro fu7
    induction fu7 with
    | zero => intro J c1 r77 r86 r87 r78 r79 r91 r90 hJ hr h21 hc1 hM hm7; exact absurd hm7 (Nat.not_lt_zero _)
    | succ fu7 ih7 =>
      intro J c1 r77 r86 r87 r78 r79 r91 r90 hJ hr h21 hc1 hM hm7
      refine V.iload_n (pc := 7) 2 dX8_findRows_7 rfl ?_
      refine V.iload_n (pc := 8) 1 dX8_findRows_8 rfl ?_
      refine V.callS (pc := 9) (e1 := eX8_manyOf) 1 [vI ((n : Nat) : Int)] [vI ((J : Nat) : Int)] mfX8_manyOf slX8_manyOf mlX8_217 dX8_findRows_9 rfl rfl (Nat.le_of_ble_eq_true rfl) ⟨by decide, by decide, by decide, by decide⟩ ?_
      refine c_X8_manyOf KW (upR (upR (upR (upR (upR (upR hi 77 r77) 86 r86) 87 r87) 78 r78) 79 r79) 91 r91) (upR hl 90 r90) n (by omega) _ ?_
      refine V.qI (pc := 9) rfl rfl ?_
      refine V.icmp_ge (pc := 12) 108 dX8_findRows_12 (by decide) (fun h12 => ?_) (fun h12 => ?_)
      · skip
        refine V.vret (pc := 108) dX8_findRows_108 rfl ?_
        have eJ : J = p3 n := by omega
        subst eJ
        exact hq _ _ _ _ _ _ _ _ hr h21 (by omega) hM
      · have h40 := n40 (n := n) (j := J) (by omega) (by omega)
        refine V.iload_n (pc := 15) 1 dX8_findRows_15 rfl ?_
        refine V.callS (pc := 16) (e1 := eX8_firstOf) 1 [vI ((n : Nat) : Int)] [] mfX8_firstOf slX8_firstOf mlX8_76 dX8_findRows_16 rfl rfl (Nat.le_of_ble_eq_true rfl) ⟨by decide, by decide, by decide, by decide⟩ ?_
        refine c_X8_firstOf KW (upR (upR (upR (upR (upR (upR hi 77 r77) 86 r86) 87 r87) 78 r78) 79 r79) 91 r91) (upR hl 90 r90) n (by omega) _ ?_
        refine V.qI (pc := 16) rfl rfl ?_
        refine V.iload_n (pc := 19) 2 dX8_findRows_19 rfl ?_
        refine V.iadd (pc := 20) ((((f3 n + J) : Nat) : Int)) dX8_findRows_20 (addN (a := f3 n) (b := J) (by omega)) ?_
        refine V.istore_n (pc := 21) (i := 3) dX8_findRows_21 rfl (by decide) (ls' := [(3, vI (((f3 n + J) : Nat) : Int)), (0, vR 77), (1, vI ((n : Nat) : Int)), (2, vI ((J : Nat) : Int))]) rfl ?_
        refine V.aload_n (pc := 22) 1 dX8_findRows_22 rfl ?_
        refine V.iload_n (pc := 23) 0 dX8_findRows_23 rfl ?_
        refine V.bipush (pc := 24) (z := 16) dX8_findRows_24 (by decide +kernel) ⟨by decide, by decide⟩ ?_
        refine V.iconst (pc := 26) (z := 0) dX8_findRows_26 rfl ⟨by decide, by decide⟩ ?_
        refine V.callV (pc := 27) (e1 := eX8_goDay) (o := 77) (c := 8) 3 [vI (((f3 n + J) : Nat) : Int), vI 16, vI 0] [] mfX8_goDay slX8_goDay mlX8_164 dX8_findRows_27 (kS_77) (by decide) rfl rfl rfl (Nat.le_of_ble_eq_true rfl) ⟨by decide, by decide, by decide, by decide⟩ ?_
        refine c_X8_goDay (upR (upR (upR (upR (upR (upR hi 77 r77) 86 r86) 87 r87) 78 r78) 79 r79) 91 r91) (upR hl 90 r90) σ (MR_up hC (hr 8 (by decide) (by decide) (by decide) (by decide)) (hr 9 (by decide) (by decide) (by decide) (by decide)) (hr 11 (by decide) (by decide) (by decide) (by decide)) rfl rfl rfl rfl rfl) (f3 n + J) (by omega) 16 0 _ (fun f77 f86 f87 f78 f79 hgd hgW => ?_)
        refine V.qV (pc := 27) rfl rfl ?_
        refine V.hieq (hi' := (upR (upR (upR (upR (upR (upR hi 77 f77) 86 f86) 87 f87) 78 f78) 79 f79) 91 r91)) ((upR_c ((upR_c ((upR_c ((upR_c (rs (by decide) (rs (by decide) (rs (by decide) (rs (by decide) (rs (by decide) r1)))))).trans (rs (by decide) (rs (by decide) (rs (by decide) (rs (by decide) r1)))))).trans (rs (by decide) (rs (by decide) (rs (by decide) r1))))).trans (rs (by decide) (rs (by decide) r1)))).trans (rs (by decide) r1)) ?_
        refine V.aload_n (pc := 30) 1 dX8_findRows_30 rfl ?_
        refine V.iload_n (pc := 31) 3 dX8_findRows_31 rfl ?_
        refine V.callV (pc := 32) (e1 := eX8_keepRow) (o := 77) (c := 8) 1 [vI ((J : Nat) : Int)] [] mfX8_keepRow slX8_keepRow mlX8_220 dX8_findRows_32 (kS_77) (by decide) rfl rfl rfl (Nat.le_of_ble_eq_true rfl) ⟨by decide, by decide, by decide, by decide⟩ ?_
        refine c_X8_keepRow (upR (upR (upR (upR (upR (upR hi 77 f77) 86 f86) 87 f87) 78 f78) 79 f79) 91 r91) (upR hl 90 r90) (wrun σ (f3 n + J) true (bysF σ 16 0) wZ (nn σ)).1 hgW.2.1 hgW.1.1 c1 ((hgd 21 (by decide) (by decide) (by decide)).trans h21) (by omega) J _ ?_
        refine V.qV (pc := 32) rfl rfl ?_
        refine V.hieq (hi' := (upR (upR (upR (upR (upR (upR hi 77 (updF f77 21 (((c1 + 1) : Nat) : Int))) 86 f86) 87 f87) 78 f78) 79 f79) 91 (updF r91 c1 ((J : Nat) : Int)))) ((upR_c (rs (by decide) (rs (by decide) (rs (by decide) (rs (by decide) (rs (by decide) r1)))))).trans r1) ?_
        refine V.hleq (hl' := (upR hl 90 (updF r90 c1 ((rkF (wrun σ (f3 n + J) true (bysF σ 16 0) wZ (nn σ)).1 : Nat) : Int)))) r1 ?_
        refine V.iconst (pc := 35) (z := 0) dX8_findRows_35 rfl ⟨by decide, by decide⟩ ?_
        refine V.istore (pc := 36) (i := 4) dX8_findRows_36 (by decide) (ls' := [(4, vI 0), (3, vI (((f3 n + J) : Nat) : Int)), (0, vR 77), (1, vI ((n : Nat) : Int)), (2, vI ((J : Nat) : Int))]) rfl ?_
        have lp38 : ∀ (fu38 : Nat) (P : Nat) (c2 : Nat) (s77 : Nat → Int) (s86 : Nat → Int) (s87 : Nat → Int) (s78 : Nat → Int) (s79 : Nat → Int) (s91 : Nat → Int) (s90 : Nat → Int), (P ≤ nn σ) → (∀ j, j ≠ 1 → j ≠ 3 → j ≠ 15 → j ≠ 21 → s77 j = hi 77 j) → (s77 21 = (c2 : Nat)) → (c2 ≤ 241 * J + 1 + 15 * P) → (RP s90 s91 c2 (MPF σ n J P 1)) → nn σ - P < fu38 → V eX8_findRows none KW 38 [(0, vR 77), (1, vI ((n : Nat) : Int)), (2, vI ((J : Nat) : Int)), (3, vI (((f3 n + J) : Nat) : Int)), (4, vI ((P : Nat) : Int))] [] (upR (upR (upR (upR (upR (upR hi 77 s77) 86 s86) 87 s87) 78 s78) 79 s79) 91 s91) (upR hl 90 s90) 0 0 Q := by
          intro fu38
          induction fu38 with
          | zero => intro P c2 s77 s86 s87 s78 s79 s91 s90 hP hs h22 hc2 hM2 hm38; exact absurd hm38 (Nat.not_lt_zero _)
          | succ fu38 ih38 =>
            intro P c2 s77 s86 s87 s78 s79 s91 s90 hP hs h22 hc2 hM2 hm38
            refine V.iload (pc := 38) 4 dX8_findRows_38 rfl ?_
            refine V.aload_n (pc := 40) 0 dX8_findRows_40 rfl ?_
            refine V.gi (pc := 41) 8 8 ((nn σ : Nat) : Int) flX8_138 dX8_findRows_41 (kS_77) (by decide) (by decide) rfl ((hs 8 (by decide) (by decide) (by decide) (by decide)).trans hC.2.2.2.1) ?_
            refine V.icmp_ge (pc := 44) 102 dX8_findRows_44 (by decide) (fun h44 => ?_) (fun h44 => ?_)
            · have ePn : P = nn σ := by omega
              refine V.iinc (pc := 102) (r := ((J + 1 : Nat) : Int)) 2 dX8_findRows_102 rfl (w32_of (by omega) (by omega) (by omega)) (by decide) (ls' := [(2, vI ((J + 1 : Nat) : Int)), (0, vR 77), (1, vI ((n : Nat) : Int)), (3, vI (((f3 n + J) : Nat) : Int)), (4, vI ((P : Nat) : Int))]) rfl ?_
              refine V.goto (pc := 105) 7 dX8_findRows_105 (by decide) ?_
              refine V.locs [1, 2, 0] (ls' := [(0, vR 77), (1, vI ((n : Nat) : Int)), (2, vI ((J + 1 : Nat) : Int))]) rfl ?_
              exact ih7 (J + 1) c2 s77 s86 s87 s78 s79 s91 s90 (by omega) (hs) (h22) (by omega) (RP_iff hM2 (fun x j => by rw [ePn]; exact MP_out)) (by omega)
            · have h15 := sN_15 (p := P) hwf h40.1 (by omega)
              refine V.iconst (pc := 47) (z := 1) dX8_findRows_47 rfl ⟨by decide, by decide⟩ ?_
              refine V.istore (pc := 48) (i := 5) dX8_findRows_48 (by decide) (ls' := [(5, vI 1), (0, vR 77), (1, vI ((n : Nat) : Int)), (2, vI ((J : Nat) : Int)), (3, vI (((f3 n + J) : Nat) : Int)), (4, vI ((P : Nat) : Int))]) rfl ?_
              refine V.iconst (pc := 50) (z := 1) dX8_findRows_50 rfl ⟨by decide, by decide⟩ ?_
              refine V.istore (pc := 51) (i := 6) dX8_findRows_51 (by decide) (ls' := [(6, vI 1), (5, vI 1), (0, vR 77), (1, vI ((n : Nat) : Int)), (2, vI ((J : Nat) : Int)), (3, vI (((f3 n + J) : Nat) : Int)), (4, vI ((P : Nat) : Int))]) rfl ?_
              have lp53 : ∀ (fu53 : Nat) (Y : Nat) (mn : Nat) (c3 : Nat) (t77 : Nat → Int) (t86 : Nat → Int) (t87 : Nat → Int) (t78 : Nat → Int) (t79 : Nat → Int) (t91 : Nat → Int) (t90 : Nat → Int), (1 ≤ Y ∧ Y ≤ 16) → ((Y = 1 ∧ mn = 1) ∨ (2 ≤ Y ∧ mn = sNF σ (f3 n + J) P)) → (∀ j, j ≠ 1 → j ≠ 3 → j ≠ 15 → j ≠ 21 → t77 j = hi 77 j) → (t77 21 = (c3 : Nat)) → (c3 ≤ 241 * J + 1 + 15 * P + (Y - 1)) → (RP t90 t91 c3 (MPF σ n J P Y)) → 17 - Y < fu53 → V eX8_findRows none KW 53 [(0, vR 77), (1, vI ((n : Nat) : Int)), (2, vI ((J : Nat) : Int)), (3, vI (((f3 n + J) : Nat) : Int)), (4, vI ((P : Nat) : Int)), (5, vI ((mn : Nat) : Int)), (6, vI ((Y : Nat) : Int))] [] (upR (upR (upR (upR (upR (upR hi 77 t77) 86 t86) 87 t87) 78 t78) 79 t79) 91 t91) (upR hl 90 t90) 0 0 Q := by
                intro fu53
                induction fu53 with
                | zero => intro Y mn c3 t77 t86 t87 t78 t79 t91 t90 hY hmn ht h23 hc3 hM3 hm53; exact absurd hm53 (Nat.not_lt_zero _)
                | succ fu53 ih53 =>
                  intro Y mn c3 t77 t86 t87 t78 t79 t91 t90 hY hmn ht h23 hc3 hM3 hm53
                  refine V.iload (pc := 53) 6 dX8_findRows_53 rfl ?_
                  refine V.iload (pc := 55) 5 dX8_findRows_55 rfl ?_
                  refine V.icmp_gt (pc := 57) 96 dX8_findRows_57 (by decide) (fun h57 => ?_) (fun h57 => ?_)
                  · have hYs : sNF σ (f3 n + J) P < Y := by omega
                    refine V.iinc (pc := 96) (r := ((P + 1 : Nat) : Int)) 4 dX8_findRows_96 rfl (w32_of (by omega) (by omega) (by omega)) (by decide) (ls' := [(4, vI ((P + 1 : Nat) : Int)), (0, vR 77), (1, vI ((n : Nat) : Int)), (2, vI ((J : Nat) : Int)), (3, vI (((f3 n + J) : Nat) : Int)), (5, vI ((mn : Nat) : Int)), (6, vI ((Y : Nat) : Int))]) rfl ?_
                    refine V.goto (pc := 99) 38 dX8_findRows_99 (by decide) ?_
                    refine V.locs [1, 2, 3, 4, 0] (ls' := [(0, vR 77), (1, vI ((n : Nat) : Int)), (2, vI ((J : Nat) : Int)), (3, vI (((f3 n + J) : Nat) : Int)), (4, vI ((P + 1 : Nat) : Int))]) rfl ?_
                    exact ih38 (P + 1) c3 t77 t86 t87 t78 t79 t91 t90 (by omega) (ht) (h23) (by omega) (RP_iff hM3 (fun x j => MP_next (by omega))) (by omega)
                  · skip
                    refine V.aload_n (pc := 60) 0 dX8_findRows_60 rfl ?_
                    refine V.iload_n (pc := 61) 3 dX8_findRows_61 rfl ?_
                    refine V.iload (pc := 62) 4 dX8_findRows_62 rfl ?_
                    refine V.callV (pc := 64) (e1 := eX8_slipsAt) (o := 77) (c := 8) 2 [vI (((f3 n + J) : Nat) : Int), vI ((P : Nat) : Int)] [] mfX8_slipsAt slX8_slipsAt mlX8_223 dX8_findRows_64 (kS_77) (by decide) rfl rfl rfl (Nat.le_of_ble_eq_true rfl) ⟨by decide, by decide, by decide, by decide⟩ ?_
                    refine c_X8_slipsAt (upR (upR (upR (upR (upR (upR hi 77 t77) 86 t86) 87 t87) 78 t78) 79 t79) 91 t91) (upR hl 90 t90) σ (MR_up hC (ht 8 (by decide) (by decide) (by decide) (by decide)) (ht 9 (by decide) (by decide) (by decide) (by decide)) (ht 11 (by decide) (by decide) (by decide) (by decide)) rfl rfl rfl rfl rfl) (f3 n + J) (by omega) P (by omega) _ (fun f77 f86 f87 f78 f79 hsa => ?_)
                    refine V.qI (pc := 64) rfl rfl ?_
                    refine V.hieq (hi' := (upR (upR (upR (upR (upR (upR hi 77 f77) 86 f86) 87 f87) 78 f78) 79 f79) 91 t91)) ((upR_c ((upR_c ((upR_c ((upR_c (rs (by decide) (rs (by decide) (rs (by decide) (rs (by decide) (rs (by decide) r1)))))).trans (rs (by decide) (rs (by decide) (rs (by decide) (rs (by decide) r1)))))).trans (rs (by decide) (rs (by decide) (rs (by decide) r1))))).trans (rs (by decide) (rs (by decide) r1)))).trans (rs (by decide) r1)) ?_
                    refine V.istore (pc := 67) (i := 5) dX8_findRows_67 (by decide) (ls' := [(5, vI ((sNF σ (f3 n + J) P : Nat) : Int)), (0, vR 77), (1, vI ((n : Nat) : Int)), (2, vI ((J : Nat) : Int)), (3, vI (((f3 n + J) : Nat) : Int)), (4, vI ((P : Nat) : Int)), (6, vI ((Y : Nat) : Int))]) rfl ?_
                    refine V.iload (pc := 69) 6 dX8_findRows_69 rfl ?_
                    refine V.iload (pc := 71) 0 dX8_findRows_71 rfl ?_
                    refine V.icmp_gt (pc := 73) 90 dX8_findRows_73 (by decide) (fun h73 => ?_) (fun h73 => ?_)
                    · skip
                      refine V.iinc (pc := 90) (r := ((Y + 1 : Nat) : Int)) 6 dX8_findRows_90 rfl (w32_of (by omega) (by omega) (by omega)) (by decide) (ls' := [(6, vI ((Y + 1 : Nat) : Int)), (5, vI ((sNF σ (f3 n + J) P : Nat) : Int)), (0, vR 77), (1, vI ((n : Nat) : Int)), (2, vI ((J : Nat) : Int)), (3, vI (((f3 n + J) : Nat) : Int)), (4, vI ((P : Nat) : Int))]) rfl ?_
                      refine V.goto (pc := 93) 53 dX8_findRows_93 (by decide) ?_
                      refine V.locs [2, 3, 4, 5, 6, 1, 0] (ls' := [(0, vR 77), (1, vI ((n : Nat) : Int)), (2, vI ((J : Nat) : Int)), (3, vI (((f3 n + J) : Nat) : Int)), (4, vI ((P : Nat) : Int)), (5, vI ((sNF σ (f3 n + J) P : Nat) : Int)), (6, vI ((Y + 1 : Nat) : Int))]) rfl ?_
                      exact ih53 (Y + 1) (sNF σ (f3 n + J) P) c3 f77 f86 f87 f78 f79 t91 t90 (by omega) (Or.inr ⟨by omega, rfl⟩) (fun j h1 h3 h15 h21 => (hsa j h1 h3 h15).trans (ht j h1 h3 h15 h21)) ((hsa 21 (by decide) (by decide) (by decide)).trans h23) (by omega) (RP_iff hM3 (fun x j => MP_no (by omega))) (by omega)
                    · skip
                      refine V.aload_n (pc := 76) 1 dX8_findRows_76 rfl ?_
                      refine V.iload_n (pc := 77) 4 dX8_findRows_77 rfl ?_
                      refine V.iload (pc := 78) 5 dX8_findRows_78 rfl ?_
                      refine V.iload (pc := 80) 6 dX8_findRows_80 rfl ?_
                      refine V.callV (pc := 82) (e1 := eX8_goDay) (o := 77) (c := 8) 3 [vI (((f3 n + J) : Nat) : Int), vI ((P : Nat) : Int), vI ((Y : Nat) : Int)] [] mfX8_goDay slX8_goDay mlX8_164 dX8_findRows_82 (kS_77) (by decide) rfl rfl rfl (Nat.le_of_ble_eq_true rfl) ⟨by decide, by decide, by decide, by decide⟩ ?_
                      refine c_X8_goDay (upR (upR (upR (upR (upR (upR hi 77 f77) 86 f86) 87 f87) 78 f78) 79 f79) 91 t91) (upR hl 90 t90) σ (MR_up hC ((hsa 8 (by decide) (by decide) (by decide)).trans (ht 8 (by decide) (by decide) (by decide) (by decide))) ((hsa 9 (by decide) (by decide) (by decide)).trans (ht 9 (by decide) (by decide) (by decide) (by decide))) ((hsa 11 (by decide) (by decide) (by decide)).trans (ht 11 (by decide) (by decide) (by decide) (by decide))) rfl rfl rfl rfl rfl) (f3 n + J) (by omega) ((P : Nat) : Int) Y _ (fun f77 f86 f87 f78 f79 hgd hgW => ?_)
                      refine V.qV (pc := 82) rfl rfl ?_
                      refine V.hieq (hi' := (upR (upR (upR (upR (upR (upR hi 77 f77) 86 f86) 87 f87) 78 f78) 79 f79) 91 t91)) ((upR_c ((upR_c ((upR_c ((upR_c (rs (by decide) (rs (by decide) (rs (by decide) (rs (by decide) (rs (by decide) r1)))))).trans (rs (by decide) (rs (by decide) (rs (by decide) (rs (by decide) r1)))))).trans (rs (by decide) (rs (by decide) (rs (by decide) r1))))).trans (rs (by decide) (rs (by decide) r1)))).trans (rs (by decide) r1)) ?_
                      refine V.aload_n (pc := 85) 1 dX8_findRows_85 rfl ?_
                      refine V.iload_n (pc := 86) 3 dX8_findRows_86 rfl ?_
                      refine V.callV (pc := 87) (e1 := eX8_keepRow) (o := 77) (c := 8) 1 [vI ((J : Nat) : Int)] [] mfX8_keepRow slX8_keepRow mlX8_220 dX8_findRows_87 (kS_77) (by decide) rfl rfl rfl (Nat.le_of_ble_eq_true rfl) ⟨by decide, by decide, by decide, by decide⟩ ?_
                      refine c_X8_keepRow (upR (upR (upR (upR (upR (upR hi 77 f77) 86 f86) 87 f87) 78 f78) 79 f79) 91 t91) (upR hl 90 t90) (wrun σ (f3 n + J) true (bysF σ ((P : Nat) : Int) Y) wZ (nn σ)).1 hgW.2.1 hgW.1.1 c3 ((hgd 21 (by decide) (by decide) (by decide)).trans ((hsa 21 (by decide) (by decide) (by decide)).trans h23)) (by omega) J _ ?_
                      refine V.qV (pc := 87) rfl rfl ?_
                      refine V.hieq (hi' := (upR (upR (upR (upR (upR (upR hi 77 (updF f77 21 (((c3 + 1) : Nat) : Int))) 86 f86) 87 f87) 78 f78) 79 f79) 91 (updF t91 c3 ((J : Nat) : Int)))) ((upR_c (rs (by decide) (rs (by decide) (rs (by decide) (rs (by decide) (rs (by decide) r1)))))).trans r1) ?_
                      refine V.hleq (hl' := (upR hl 90 (updF t90 c3 ((rkF (wrun σ (f3 n + J) true (bysF σ ((P : Nat) : Int) Y) wZ (nn σ)).1 : Nat) : Int)))) r1 ?_
                      refine V.iinc (pc := 90) (r := ((Y + 1 : Nat) : Int)) 6 dX8_findRows_90 rfl (w32_of (by omega) (by omega) (by omega)) (by decide) (ls' := [(6, vI ((Y + 1 : Nat) : Int)), (5, vI ((sNF σ (f3 n + J) P : Nat) : Int)), (0, vR 77), (1, vI ((n : Nat) : Int)), (2, vI ((J : Nat) : Int)), (3, vI (((f3 n + J) : Nat) : Int)), (4, vI ((P : Nat) : Int))]) rfl ?_
                      refine V.goto (pc := 93) 53 dX8_findRows_93 (by decide) ?_
                      refine V.locs [2, 3, 4, 5, 6, 1, 0] (ls' := [(0, vR 77), (1, vI ((n : Nat) : Int)), (2, vI ((J : Nat) : Int)), (3, vI (((f3 n + J) : Nat) : Int)), (4, vI ((P : Nat) : Int)), (5, vI ((sNF σ (f3 n + J) P : Nat) : Int)), (6, vI ((Y + 1 : Nat) : Int))]) rfl ?_
                      exact ih53 (Y + 1) (sNF σ (f3 n + J) P) (c3 + 1) (updF f77 21 (((c3 + 1) : Nat) : Int)) f86 f87 f78 f79 (updF t91 c3 ((J : Nat) : Int)) (updF t90 c3 ((rkF (wrun σ (f3 n + J) true (bysF σ ((P : Nat) : Int) Y) wZ (nn σ)).1 : Nat) : Int)) (by omega) (Or.inr ⟨by omega, rfl⟩) (fun j h1 h3 h15 h21 => (updF_n h21).trans ((hgd j h1 h3 h15).trans ((hsa j h1 h3 h15).trans (ht j h1 h3 h15 h21)))) (updF_s) (by omega) (RP_add hM3 (fun x j => by rw [row1 hwf (by omega) (by omega) (by omega)]; exact MP_y (by omega) (by omega) (by omega))) (by omega)
              refine V.locs [2, 3, 4, 5, 6, 1, 0] (ls' := [(0, vR 77), (1, vI ((n : Nat) : Int)), (2, vI ((J : Nat) : Int)), (3, vI (((f3 n + J) : Nat) : Int)), (4, vI ((P : Nat) : Int)), (5, vI 1), (6, vI 1)]) rfl ?_
              exact lp53 _ 1 1 _ s77 s86 s87 s78 s79 s91 s90 (by omega) (Or.inl ⟨rfl, rfl⟩) (hs) (h22) (by omega) (hM2) (Nat.lt_succ_self _)
        refine V.locs [2, 3, 4, 1, 0] (ls' := [(0, vR 77), (1, vI ((n : Nat) : Int)), (2, vI ((J : Nat) : Int)), (3, vI (((f3 n + J) : Nat) : Int)), (4, vI 0)]) rfl ?_
        exact lp38 _ 0 (c1 + 1) (updF f77 21 (((c1 + 1) : Nat) : Int)) f86 f87 f78 f79 (updF r91 c1 ((J : Nat) : Int)) (updF r90 c1 ((rkF (wrun σ (f3 n + J) true (bysF σ 16 0) wZ (nn σ)).1 : Nat) : Int)) (by omega) (fun j h1 h3 h15 h21 => (updF_n h21).trans ((hgd j h1 h3 h15).trans (hr j h1 h3 h15 h21))) (updF_s) (by omega) (RP_add hM (fun x j => by rw [row0 hwf]; exact MP_in)) (Nat.lt_succ_self _)
  refine V.locs [1, 2, 0] (ls' := [(0, vR 77), (1, vI ((n : Nat) : Int)), (2, vI 0)]) rfl ?_
  exact lp7 _ 0 0 (updF (hi 77) 21 0) (hi 86) (hi 87) (hi 78) (hi 79) (hi 91) (hl 90) (by omega) (fun j _ _ _ h21 => updF_n h21) (updF_s) (by omega) (MJ_0) (Nat.lt_succ_self _)

