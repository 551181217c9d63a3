set_option maxRecDepth 100000 in
theorem c_X8_at (K : KK) (hi hl : HI) (p v : Nat) (hp : p ≤ 16) (hv : v < 364) (Q : QT) (hq : Q (some (vI ((364 * p + v : Nat) : Int))) K hi hl) : Con eX8_at [vI (p : Nat), vI (v : Nat)] K hi hl Q := by
  refine Con.ofV (by decide +kernel) (Nat.le_of_ble_eq_true rfl) ?_
  show V eX8_at none K 0 [(0, vI ((p : Nat) : Int)), (1, vI ((v : Nat) : Int))] [] hi hl 0 0 Q
  refine V.sipush (pc := 0) (z := 364) dX8_at_0 (by decide +kernel) ⟨by decide, by decide⟩ ?_
  refine V.iload_n (pc := 3) 0 dX8_at_3 rfl ?_
  refine V.imul (pc := 4) (((364 * p : Nat) : Int)) dX8_at_4 (mulN (a := 364) (b := p) (by omega)) ?_
  refine V.iload_n (pc := 5) 1 dX8_at_5 rfl ?_
  refine V.iadd (pc := 6) ((((364 * p + v) : Nat) : Int)) dX8_at_6 (addN (a := 364 * p) (b := v) (by omega)) ?_
  refine V.iret (pc := 7) (z := (((364 * p + v) : Nat) : Int)) dX8_at_7 rfl ?_
  exact hq

set_option maxRecDepth 100000 in
theorem c_X8_sourceOf (hi hl : HI) (σ : SG) (hC : MR hi σ) (H : Nat → Bool) (hH : ∀ j, j < nn σ → hi 87 j = b2i (H j)) (p : Nat) (hp : p < nn σ) (Q : QT) (hq : Q (some (vI (srcF σ H p : Nat))) KW hi hl) : Con eX8_sourceOf [vR 77, vI (p : Nat)] KW hi hl Q := by
  refine Con.ofV (by decide +kernel) (Nat.le_of_ble_eq_true rfl) ?_
  show V eX8_sourceOf none KW 0 [(0, vR 77), (1, vI ((p : Nat) : Int))] [] hi hl 0 0 Q
  have hwf := hC.1
  have hn16 := hwf.2.2.1
  have hCp := hC.2.2.2.2.1 p hp
  refine V.iload_n (pc := 0) 1 dX8_sourceOf_0 rfl ?_
  refine V.iconst (pc := 1) (z := 1) dX8_sourceOf_1 rfl ⟨by decide, by decide⟩ ?_
  refine V.isub (pc := 2) ((((p : Nat) : Int) - 1)) dX8_sourceOf_2 (w32_of (by omega) (by omega) (by omega)) ?_
  refine V.istore_n (pc := 3) (i := 2) dX8_sourceOf_3 rfl (by decide) (ls' := [(2, vI (((p : Nat) : Int) - 1)), (0, vR 77), (1, vI ((p : Nat) : Int))]) rfl ?_
  have lp4 : ∀ (fu4 : Nat) (k : Nat), (k ≤ p) → (srcG σ H (sp' σ p) k = srcG σ H (sp' σ p) p) → k < fu4 → V eX8_sourceOf none KW 4 [(0, vR 77), (1, vI ((p : Nat) : Int)), (2, vI ((k : Int) - 1))] [] hi hl 0 0 Q := by
    intro fu4
    induction fu4 with
    | zero => intro k hk h1 hm4; exact absurd hm4 (Nat.not_lt_zero _)
    | succ fu4 ih4 =>
      intro k hk h1 hm4
      refine V.iload_n (pc := 4) 2 dX8_sourceOf_4 rfl ?_
      refine V.if_lt (pc := 5) 51 dX8_sourceOf_5 (by decide) (fun h5 => ?_) (fun h5 => ?_)
      · have hk0 : k = 0 := by omega
        refine V.bipush (pc := 51) (z := 16) dX8_sourceOf_51 (by decide +kernel) ⟨by decide, by decide⟩ ?_
        refine V.iret (pc := 53) (z := 16) dX8_sourceOf_53 rfl ?_
        have e : srcF σ H p = 16 := by
          unfold srcF
          by_cases q6 : sp' σ p = 6
          · rw [if_pos q6]
          · rw [if_neg q6, ← h1]
            first
            | (have hk0 : k = 0 := by omega
               rw [hk0]; rfl)
            | (exfalso; omega)
        rw [e] at hq
        exact hq
      · have hk1 : 1 ≤ k := by omega
        refine V.aload_n (pc := 8) 0 dX8_sourceOf_8 rfl ?_
        refine V.gr (pc := 9) 8 5 81 flX8_19 dX8_sourceOf_9 (kS_77) (by decide) (by decide) rfl (kR_77_5) ?_
        refine V.iload_n (pc := 12) 1 dX8_sourceOf_12 rfl ?_
        refine V.ia (pc := 13) (len := 16) p ((sp' σ p : Nat) : Int) dX8_sourceOf_13 (kS_81) (rfl) (by omega) (hCp.1) ?_
        refine V.bipush (pc := 14) (z := 6) dX8_sourceOf_14 (by decide +kernel) ⟨by decide, by decide⟩ ?_
        refine V.icmp_eq (pc := 16) 51 dX8_sourceOf_16 (by decide) (fun h16 => ?_) (fun h16 => ?_)
        · skip
          refine V.bipush (pc := 51) (z := 16) dX8_sourceOf_51 (by decide +kernel) ⟨by decide, by decide⟩ ?_
          refine V.iret (pc := 53) (z := 16) dX8_sourceOf_53 rfl ?_
          have e : srcF σ H p = 16 := by
            unfold srcF
            by_cases q6 : sp' σ p = 6
            · rw [if_pos q6]
            · rw [if_neg q6, ← h1]
              first
              | (have hk0 : k = 0 := by omega
                 rw [hk0]; rfl)
              | (exfalso; omega)
          rw [e] at hq
          exact hq
        · skip
          refine V.aload_n (pc := 19) 0 dX8_sourceOf_19 rfl ?_
          refine V.gr (pc := 20) 8 16 87 flX8_37 dX8_sourceOf_20 (kS_77) (by decide) (by decide) rfl (kR_77_16) ?_
          refine V.iload_n (pc := 23) 2 dX8_sourceOf_23 rfl ?_
          refine V.za (pc := 24) (len := 16) (k - 1) (b2i (H (k - 1))) dX8_sourceOf_24 (kS_87) (by omega) (by omega) (hH _ (by omega)) ?_
          refine V.if_eq (pc := 25) 45 dX8_sourceOf_25 (by decide) (fun h25 => ?_) (fun h25 => ?_)
          · have hng : ¬ (H (k - 1) = true ∧ he σ (k - 1) = sp' σ p) := fun q => by rw [q.1] at h25; exact absurd h25 (by decide)
            refine V.iinc (pc := 45) (r := (((k - 1 : Nat) : Int) - 1)) 2 dX8_sourceOf_45 rfl (w32_of (by omega) (by omega) (by omega)) (by decide) (ls' := [(2, vI (((k - 1 : Nat) : Int) - 1)), (0, vR 77), (1, vI ((p : Nat) : Int))]) rfl ?_
            refine V.goto (pc := 48) 4 dX8_sourceOf_48 (by decide) ?_
            refine V.locs [1, 2, 0] (ls' := [(0, vR 77), (1, vI ((p : Nat) : Int)), (2, vI (((k - 1 : Nat) : Int) - 1))]) rfl ?_
            have hkk : k = (k - 1) + 1 := by omega
            exact ih4 (k - 1) (by omega) (by rw [← h1, show srcG σ H (sp' σ p) k = srcG σ H (sp' σ p) ((k - 1) + 1) by rw [← hkk], srcG_s, if_neg hng]) (by omega)
          · skip
            refine V.aload_n (pc := 28) 0 dX8_sourceOf_28 rfl ?_
            refine V.gr (pc := 29) 8 6 82 flX8_22 dX8_sourceOf_29 (kS_77) (by decide) (by decide) rfl (kR_77_6) ?_
            refine V.iload_n (pc := 32) 2 dX8_sourceOf_32 rfl ?_
            refine V.ia (pc := 33) (len := 16) (k - 1) ((he σ (k - 1) : Nat) : Int) dX8_sourceOf_33 (kS_82) (by omega) (by omega) ((hC.2.2.2.2.1 (k - 1) (by omega)).2.1) ?_
            refine V.aload_n (pc := 34) 0 dX8_sourceOf_34 rfl ?_
            refine V.gr (pc := 35) 8 5 81 flX8_19 dX8_sourceOf_35 (kS_77) (by decide) (by decide) rfl (kR_77_5) ?_
            refine V.iload_n (pc := 38) 1 dX8_sourceOf_38 rfl ?_
            refine V.ia (pc := 39) (len := 16) p ((sp' σ p : Nat) : Int) dX8_sourceOf_39 (kS_81) (rfl) (by omega) (hCp.1) ?_
            refine V.icmp_ne (pc := 40) 45 dX8_sourceOf_40 (by decide) (fun h40 => ?_) (fun h40 => ?_)
            · have hng : ¬ (H (k - 1) = true ∧ he σ (k - 1) = sp' σ p) := fun q => by omega
              refine V.iinc (pc := 45) (r := (((k - 1 : Nat) : Int) - 1)) 2 dX8_sourceOf_45 rfl (w32_of (by omega) (by omega) (by omega)) (by decide) (ls' := [(2, vI (((k - 1 : Nat) : Int) - 1)), (0, vR 77), (1, vI ((p : Nat) : Int))]) rfl ?_
              refine V.goto (pc := 48) 4 dX8_sourceOf_48 (by decide) ?_
              refine V.locs [1, 2, 0] (ls' := [(0, vR 77), (1, vI ((p : Nat) : Int)), (2, vI (((k - 1 : Nat) : Int) - 1))]) rfl ?_
              have hkk : k = (k - 1) + 1 := by omega
              exact ih4 (k - 1) (by omega) (by rw [← h1, show srcG σ H (sp' σ p) k = srcG σ H (sp' σ p) ((k - 1) + 1) by rw [← hkk], srcG_s, if_neg hng]) (by omega)
            · skip
              refine V.iload_n (pc := 43) 2 dX8_sourceOf_43 rfl ?_
              refine V.iret (pc := 44) (z := ((k : Int) - 1)) dX8_sourceOf_44 rfl ?_
              have e : srcF σ H p = k - 1 := by unfold srcF; rw [if_neg (by omega), ← h1, show srcG σ H (sp' σ p) k = srcG σ H (sp' σ p) ((k - 1) + 1) by rw [show k - 1 + 1 = k by omega], srcG_s, if_pos ⟨b2i_T h25, by omega⟩]
              rw [e, show ((k - 1 : Nat) : Int) = (k : Int) - 1 by omega] at hq
              exact hq
  refine V.locs [1, 2, 0] (ls' := [(0, vR 77), (1, vI ((p : Nat) : Int)), (2, vI (((p : Nat) : Int) - 1))]) rfl ?_
  exact lp4 _ p (by omega) (rfl) (Nat.lt_succ_self _)

set_option maxRecDepth 100000 in
theorem c_X8_isLast (hi hl : HI) (σ : SG) (hC : MR hi σ) (H : Nat → Bool) (hH : ∀ j, j < nn σ → hi 87 j = b2i (H j)) (p : Nat) (hp : p < nn σ) (Q : QT) (hq : Q (some (vI (b2i (lstF σ H p)))) KW hi hl) : Con eX8_isLast [vR 77, vI (p : Nat)] KW hi hl Q := by
  refine Con.ofV (by decide +kernel) (Nat.le_of_ble_eq_true rfl) ?_
  show V eX8_isLast none KW 0 [(0, vR 77), (1, vI ((p : Nat) : Int))] [] hi hl 0 0 Q
  have hwf := hC.1
  have hn16 := hwf.2.2.1
  have hCp := hC.2.2.2.2.1 p hp
  refine V.iconst (pc := 0) (z := 1) dX8_isLast_0 rfl ⟨by decide, by decide⟩ ?_
  refine V.istore_n (pc := 1) (i := 2) dX8_isLast_1 rfl (by decide) (ls' := [(2, vI 1), (0, vR 77), (1, vI ((p : Nat) : Int))]) rfl ?_
  refine V.iload_n (pc := 2) 2 dX8_isLast_2 rfl ?_
  refine V.iconst (pc := 3) (z := 1) dX8_isLast_3 rfl ⟨by decide, by decide⟩ ?_
  refine V.iadd (pc := 4) ((((p + 1) : Nat) : Int)) dX8_isLast_4 (addN (a := p) (b := 1) (by omega)) ?_
  refine V.istore_n (pc := 5) (i := 3) dX8_isLast_5 rfl (by decide) (ls' := [(3, vI (((p + 1) : Nat) : Int)), (2, vI 1), (0, vR 77), (1, vI ((p : Nat) : Int))]) rfl ?_
  have lp6 : ∀ (fu6 : Nat) (k : Nat) (z : Int), (p < k ∧ k ≤ nn σ) → (z = b2i (!(anyB (lstB σ H p) k))) → nn σ - k < fu6 → V eX8_isLast none KW 6 [(0, vR 77), (1, vI ((p : Nat) : Int)), (2, vI z), (3, vI ((k : Nat) : Int))] [] hi hl 0 0 Q := by
    intro fu6
    induction fu6 with
    | zero => intro k z hk hz hm6; exact absurd hm6 (Nat.not_lt_zero _)
    | succ fu6 ih6 =>
      intro k z hk hz hm6
      refine V.iload_n (pc := 6) 3 dX8_isLast_6 rfl ?_
      refine V.aload_n (pc := 7) 0 dX8_isLast_7 rfl ?_
      refine V.gi (pc := 8) 8 8 ((nn σ : Nat) : Int) flX8_138 dX8_isLast_8 (kS_77) (by decide) (by decide) rfl (hC.2.2.2.1) ?_
      refine V.icmp_ge (pc := 11) 54 dX8_isLast_11 (by decide) (fun h11 => ?_) (fun h11 => ?_)
      · skip
        refine V.iload_n (pc := 54) 2 dX8_isLast_54 rfl ?_
        refine V.zret (pc := 55) (z := z) dX8_isLast_55 rfl (by omega) ?_
        have e : k = nn σ := by omega
        subst hz
        rw [e]
        exact hq
      · skip
        refine V.iload_n (pc := 14) 2 dX8_isLast_14 rfl ?_
        refine V.if_eq (pc := 15) 46 dX8_isLast_15 (by decide) (fun h15 => ?_) (fun h15 => ?_)
        · have hzt : anyB (lstB σ H p) k = true := by cases hh : anyB (lstB σ H p) k with | true => rfl | false => rw [hh] at hz; exact absurd (hz.symm.trans (by omega)) (by decide)
          refine V.iconst (pc := 46) (z := 0) dX8_isLast_46 rfl ⟨by decide, by decide⟩ ?_
          refine V.istore_n (pc := 47) (i := 2) dX8_isLast_47 rfl (by decide) (ls' := [(2, vI 0), (0, vR 77), (1, vI ((p : Nat) : Int)), (3, vI ((k : Nat) : Int))]) rfl ?_
          refine V.iinc (pc := 48) (r := ((k + 1 : Nat) : Int)) 3 dX8_isLast_48 rfl (w32_of (by omega) (by omega) (by omega)) (by decide) (ls' := [(3, vI ((k + 1 : Nat) : Int)), (2, vI 0), (0, vR 77), (1, vI ((p : Nat) : Int))]) rfl ?_
          refine V.goto (pc := 51) 6 dX8_isLast_51 (by decide) ?_
          refine V.locs [2, 3, 1, 0] (ls' := [(0, vR 77), (1, vI ((p : Nat) : Int)), (2, vI 0), (3, vI ((k + 1 : Nat) : Int))]) rfl ?_
          exact ih6 (k + 1) 0 (by omega) (by rw [show anyB (lstB σ H p) (k + 1) = (anyB (lstB σ H p) k || lstB σ H p k) from rfl, hzt, Bool.true_or]; rfl) (by omega)
        · have hzf : anyB (lstB σ H p) k = false := by cases hh : anyB (lstB σ H p) k with | false => rfl | true => rw [hh] at hz; exact absurd hz h15
          refine V.aload_n (pc := 18) 0 dX8_isLast_18 rfl ?_
          refine V.gr (pc := 19) 8 16 87 flX8_37 dX8_isLast_19 (kS_77) (by decide) (by decide) rfl (kR_77_16) ?_
          refine V.iload_n (pc := 22) 3 dX8_isLast_22 rfl ?_
          refine V.za (pc := 23) (len := 16) k (b2i (H k)) dX8_isLast_23 (kS_87) (rfl) (by omega) (hH _ (by omega)) ?_
          refine V.if_eq (pc := 24) 42 dX8_isLast_24 (by decide) (fun h24 => ?_) (fun h24 => ?_)
          · skip
            refine V.iconst (pc := 42) (z := 1) dX8_isLast_42 rfl ⟨by decide, by decide⟩ ?_
            refine V.goto (pc := 43) 47 dX8_isLast_43 (by decide) ?_
            refine V.istore_n (pc := 47) (i := 2) dX8_isLast_47 rfl (by decide) (ls' := [(2, vI 1), (0, vR 77), (1, vI ((p : Nat) : Int)), (3, vI ((k : Nat) : Int))]) rfl ?_
            refine V.iinc (pc := 48) (r := ((k + 1 : Nat) : Int)) 3 dX8_isLast_48 rfl (w32_of (by omega) (by omega) (by omega)) (by decide) (ls' := [(3, vI ((k + 1 : Nat) : Int)), (2, vI 1), (0, vR 77), (1, vI ((p : Nat) : Int))]) rfl ?_
            refine V.goto (pc := 51) 6 dX8_isLast_51 (by decide) ?_
            refine V.locs [2, 3, 1, 0] (ls' := [(0, vR 77), (1, vI ((p : Nat) : Int)), (2, vI 1), (3, vI ((k + 1 : Nat) : Int))]) rfl ?_
            exact ih6 (k + 1) 1 (by omega) (by rw [show anyB (lstB σ H p) (k + 1) = (anyB (lstB σ H p) k || lstB σ H p k) from rfl, hzf, show lstB σ H p k = false by unfold lstB; rw [b2i_F h24, Bool.and_false]; rfl]; rfl) (by omega)
          · skip
            refine V.aload_n (pc := 27) 0 dX8_isLast_27 rfl ?_
            refine V.gr (pc := 28) 8 6 82 flX8_22 dX8_isLast_28 (kS_77) (by decide) (by decide) rfl (kR_77_6) ?_
            refine V.iload_n (pc := 31) 3 dX8_isLast_31 rfl ?_
            refine V.ia (pc := 32) (len := 16) k ((he σ k : Nat) : Int) dX8_isLast_32 (kS_82) (rfl) (by omega) ((hC.2.2.2.2.1 k (by omega)).2.1) ?_
            refine V.aload_n (pc := 33) 0 dX8_isLast_33 rfl ?_
            refine V.gr (pc := 34) 8 6 82 flX8_22 dX8_isLast_34 (kS_77) (by decide) (by decide) rfl (kR_77_6) ?_
            refine V.iload_n (pc := 37) 1 dX8_isLast_37 rfl ?_
            refine V.ia (pc := 38) (len := 16) p ((he σ p : Nat) : Int) dX8_isLast_38 (kS_82) (rfl) (by omega) (hCp.2.1) ?_
            refine V.icmp_eq (pc := 39) 46 dX8_isLast_39 (by decide) (fun h39 => ?_) (fun h39 => ?_)
            · skip
              refine V.iconst (pc := 46) (z := 0) dX8_isLast_46 rfl ⟨by decide, by decide⟩ ?_
              refine V.istore_n (pc := 47) (i := 2) dX8_isLast_47 rfl (by decide) (ls' := [(2, vI 0), (0, vR 77), (1, vI ((p : Nat) : Int)), (3, vI ((k : Nat) : Int))]) rfl ?_
              refine V.iinc (pc := 48) (r := ((k + 1 : Nat) : Int)) 3 dX8_isLast_48 rfl (w32_of (by omega) (by omega) (by omega)) (by decide) (ls' := [(3, vI ((k + 1 : Nat) : Int)), (2, vI 0), (0, vR 77), (1, vI ((p : Nat) : Int))]) rfl ?_
              refine V.goto (pc := 51) 6 dX8_isLast_51 (by decide) ?_
              refine V.locs [2, 3, 1, 0] (ls' := [(0, vR 77), (1, vI ((p : Nat) : Int)), (2, vI 0), (3, vI ((k + 1 : Nat) : Int))]) rfl ?_
              exact ih6 (k + 1) 0 (by omega) (by rw [show anyB (lstB σ H p) (k + 1) = (anyB (lstB σ H p) k || lstB σ H p k) from rfl, show lstB σ H p k = true by unfold lstB; rw [b2i_T h24, decide_eq_true (show p < k by omega), decide_eq_true (show he σ k = he σ p by omega)]; rfl, Bool.or_true]; rfl) (by omega)
            · skip
              refine V.iconst (pc := 42) (z := 1) dX8_isLast_42 rfl ⟨by decide, by decide⟩ ?_
              refine V.goto (pc := 43) 47 dX8_isLast_43 (by decide) ?_
              refine V.istore_n (pc := 47) (i := 2) dX8_isLast_47 rfl (by decide) (ls' := [(2, vI 1), (0, vR 77), (1, vI ((p : Nat) : Int)), (3, vI ((k : Nat) : Int))]) rfl ?_
              refine V.iinc (pc := 48) (r := ((k + 1 : Nat) : Int)) 3 dX8_isLast_48 rfl (w32_of (by omega) (by omega) (by omega)) (by decide) (ls' := [(3, vI ((k + 1 : Nat) : Int)), (2, vI 1), (0, vR 77), (1, vI ((p : Nat) : Int))]) rfl ?_
              refine V.goto (pc := 51) 6 dX8_isLast_51 (by decide) ?_
              refine V.locs [2, 3, 1, 0] (ls' := [(0, vR 77), (1, vI ((p : Nat) : Int)), (2, vI 1), (3, vI ((k + 1 : Nat) : Int))]) rfl ?_
              exact ih6 (k + 1) 1 (by omega) (by rw [show anyB (lstB σ H p) (k + 1) = (anyB (lstB σ H p) k || lstB σ H p k) from rfl, hzf, show lstB σ H p k = false by unfold lstB; rw [decide_eq_false (show ¬ he σ k = he σ p by omega), Bool.and_false]]; rfl) (by omega)
  refine V.locs [2, 3, 1, 0] (ls' := [(0, vR 77), (1, vI ((p : Nat) : Int)), (2, vI 1), (3, vI (((p + 1) : Nat) : Int))]) rfl ?_
  exact lp6 _ (p + 1) 1 (by omega) (by rw [anyB_f (fun q hq => by unfold lstB; rw [decide_eq_false (show ¬ p < q by omega)]; rfl)]; rfl) (Nat.lt_succ_self _)

