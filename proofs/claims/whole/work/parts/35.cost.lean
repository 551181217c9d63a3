set_option maxRecDepth 100000 in
theorem c_X8_at (K : KK) (hi hl : HI) (p v : Nat) (hp : p ≤ 16) (hv : v < 364) (Q : QT) (hq : Q (some (vI ((364 * p + v : Nat) : Int))) K hi hl) : Con eX8_at [vI (p : Nat), vI (v : Nat)] K hi hl Q := by
  refine Con.ofV (by decide +kernel) (Nat.le_of_ble_eq_true rfl) ?_
  show V eX8_at none K 0 [(0, vI ((p : Nat) : Int)), (1, vI ((v : Nat) : Int))] [] hi hl 0 0 Q
  refine V.sipush (pc := 0) (z := 364) dX8_at_0 (by decide +kernel) ⟨by decide, by decide⟩ ?_
  refine V.iload_n (pc := 3) 0 dX8_at_3 rfl ?_
  refine V.imul (pc := 4) (((364 * p : Nat) : Int)) dX8_at_4 (mulN (a := 364) (b := p) (by omega)) ?_
  refine V.iload_n (pc := 5) 1 dX8_at_5 rfl ?_
  refine V.iadd (pc := 6) ((((364 * p + v) : Nat) : Int)) dX8_at_6 (addN (a := 364 * p) (b := v) (by omega)) ?_
  refine V.iret (pc := 7) (z := (((364 * p + v) : Nat) : Int)) dX8_at_7 rfl ?_
  exact hq

set_option maxRecDepth 100000 in
theorem c_X8_sourceOf (hi hl : HI) (σ : SG) (hC : MR hi σ) (H : Nat → Bool) (hH : ∀ j, j < nn σ → hi 87 j = b2i (H j)) (p : Nat) (hp : p < nn σ) (Q : QT) (hq : Q (some (vI (srcF σ H p : Nat))) KW hi hl) : Con eX8_sourceOf [vR 77, vI (p : Nat)] KW hi hl Q := by
  refine Con.ofV (by decide +kernel) (Nat.le_of_ble_eq_true rfl) ?_
  show V eX8_sourceOf none KW 0 [(0, vR 77), (1, vI ((p : Nat) : Int))] [] hi hl 0 0 Q
  have hwf := hC.1
  have hn16 := hwf.2.2.1
  have hCp := hC.2.2.2.2.1 p hp
  refine V.iload_n (pc := 0) 1 dX8_sourceOf_0 rfl ?_
  refine V.iconst (pc := 1) (z := 1) dX8_sourceOf_1 rfl ⟨by decide, by decide⟩ ?_
  refine V.isub (pc := 2) ((((p : Nat) : Int) - 1)) dX8_sourceOf_2 (w32_of (by omega) (by omega) (by omega)) ?_
  refine V.istore_n (pc := 3) (i := 2) dX8_sourceOf_3 rfl (by decide) (ls' := [(2, vI (((p : Nat) : Int) - 1)), (0, vR 77), (1, vI ((p : Nat) : Int))]) rfl ?_
  have lp4 : ∀ (fu4 : Nat) (k : Nat), (k ≤ p) → (srcG σ H (sp' σ p) k = srcG σ H (sp' σ p) p) → k < fu4 → V eX8_sourceOf none KW 4 [(0, vR 77), (1, vI ((p : Nat) : Int)), (2, vI ((k : Int) - 1))] [] hi hl 0 0 Q := by
    intro fu4
    induction fu4 with
    | zero => intro k hk h1 hm4; exact absurd hm4 (Nat.not_lt_zero _)
    | succ fu4 ih4 =>
      intro k hk h1 hm4
      refine V.iload_n (pc := 4) 2 dX8_sourceOf_4 rfl ?_
      refine V.if_lt (pc := 5) 51 dX8_sourceOf_5 (by decide) (fun h5 => ?_) (fun h5 => ?_)
      · have hk0 : k = 0 := by omega
        refine V.bipush (pc := 51) (z := 16) dX8_sourceOf_51 (by decide +kernel) ⟨by decide, by decide⟩ ?_
        refine V.iret (pc := 53) (z := 16) dX8_sourceOf_53 rfl ?_
        have e : srcF σ H p = 16 := by
          unfold srcF
          by_cases q6 : sp' σ p = 6
          · rw [if_pos q6]
          · rw [if_neg q6, ← h1]
            first
            | (have hk0 : k = 0 := by omega
               rw [hk0]; rfl)
            | (exfalso; omega)
        rw [e] at hq
        exact hq
      · have hk1 : 1 ≤ k := by omega
        refine V.aload_n (pc := 8) 0 dX8_sourceOf_8 rfl ?_
        refine V.gr (pc := 9) 8 5 81 flX8_19 dX8_sourceOf_9 (kS_77) (by decide) (by decide) rfl (kR_77_5) ?_
        refine V.iload_n (pc := 12) 1 dX8_sourceOf_12 rfl ?_
        refine V.ia (pc := 13) (len := 16) p ((sp' σ p : Nat) : Int) dX8_sourceOf_13 (kS_81) (rfl) (by omega) (hCp.1) ?_
        refine V.bipush (pc := 14) (z := 6) dX8_sourceOf_14 (by decide +kernel) ⟨by decide, by decide⟩ ?_
        refine V.icmp_eq (pc := 16) 51 dX8_sourceOf_16 (by decide) (fun h16 => ?_) (fun h16 => ?_)
        · skip
          refine V.bipush (pc := 51) (z := 16) dX8_sourceOf_51 (by decide +kernel) ⟨by decide, by decide⟩ ?_
          refine V.iret (pc := 53) (z := 16) dX8_sourceOf_53 rfl ?_
          have e : srcF σ H p = 16 := by
            unfold srcF
            by_cases q6 : sp' σ p = 6
            · rw [if_pos q6]
            · rw [if_neg q6, ← h1]
              first
              | (have hk0 : k = 0 := by omega
                 rw [hk0]; rfl)
              | (exfalso; omega)
          rw [e] at hq
          exact hq
        · skip
          refine V.aload_n (pc := 19) 0 dX8_sourceOf_19 rfl ?_
          refine V.gr (pc := 20) 8 16 87 flX8_37 dX8_sourceOf_20 (kS_77) (by decide) (by decide) rfl (kR_77_16) ?_
          refine V.iload_n (pc := 23) 2 dX8_sourceOf_23 rfl ?_
          refine V.za (pc := 24) (len := 16) (k - 1) (b2i (H (k - 1))) dX8_sourceOf_24 (kS_87) (by omega) (by omega) (hH _ (by omega)) ?_
          refine V.if_eq (pc := 25) 45 dX8_sourceOf_25 (by decide) (fun h25 => ?_) (fun h25 => ?_)
          · have hng : ¬ (H (k - 1) = true ∧ he σ (k - 1) = sp' σ p) := fun q => by rw [q.1] at h25; exact absurd h25 (by decide)
            refine V.iinc (pc := 45) (r := (((k - 1 : Nat) : Int) - 1)) 2 dX8_sourceOf_45 rfl (w32_of (by omega) (by omega) (by omega)) (by decide) (ls' := [(2, vI (((k - 1 : Nat) : Int) - 1)), (0, vR 77), (1, vI ((p : Nat) : Int))]) rfl ?_
            refine V.goto (pc := 48) 4 dX8_sourceOf_48 (by decide) ?_
            refine V.locs [1, 2, 0] (ls' := [(0, vR 77), (1, vI ((p : Nat) : Int)), (2, vI (((k - 1 : Nat) : Int) - 1))]) rfl ?_
            have hkk : k = (k - 1) + 1 := by omega
            exact ih4 (k - 1) (by omega) (by rw [← h1, show srcG σ H (sp' σ p) k = srcG σ H (sp' σ p) ((k - 1) + 1) by rw [← hkk], srcG_s, if_neg hng]) (by omega)
          · skip
            refine V.aload_n (pc := 28) 0 dX8_sourceOf_28 rfl ?_
            refine V.gr (pc := 29) 8 6 82 flX8_22 dX8_sourceOf_29 (kS_77) (by decide) (by decide) rfl (kR_77_6) ?_
            refine V.iload_n (pc := 32) 2 dX8_sourceOf_32 rfl ?_
            refine V.ia (pc := 33) (len := 16) (k - 1) ((he σ (k - 1) : Nat) : Int) dX8_sourceOf_33 (kS_82) (by omega) (by omega) ((hC.2.2.2.2.1 (k - 1) (by omega)).2.1) ?_
            refine V.aload_n (pc := 34) 0 dX8_sourceOf_34 rfl ?_
            refine V.gr (pc := 35) 8 5 81 flX8_19 dX8_sourceOf_35 (kS_77) (by decide) (by decide) rfl (kR_77_5) ?_
            refine V.iload_n (pc := 38) 1 dX8_sourceOf_38 rfl ?_
            refine V.ia (pc := 39) (len := 16) p ((sp' σ p : Nat) : Int) dX8_sourceOf_39 (kS_81) (rfl) (by omega) (hCp.1) ?_
            refine V.icmp_ne (pc := 40) 45 dX8_sourceOf_40 (by decide) (fun h40 => ?_) (fun h40 => ?_)
            · have hng : ¬ (H (k - 1) = true ∧ he σ (k - 1) = sp' σ p) := fun q => by omega
              refine V.iinc (pc := 45) (r := (((k - 1 : Nat) : Int) - 1)) 2 dX8_sourceOf_45 rfl (w32_of (by omega) (by omega) (by omega)) (by decide) (ls' := [(2, vI (((k - 1 : Nat) : Int) - 1)), (0, vR 77), (1, vI ((p : Nat) : Int))]) rfl ?_
              refine V.goto (pc := 48) 4 dX8_sourceOf_48 (by decide) ?_
              refine V.locs [1, 2, 0] (ls' := [(0, vR 77), (1, vI ((p : Nat) : Int)), (2, vI (((k - 1 : Nat) : Int) - 1))]) rfl ?_
              have hkk : k = (k - 1) + 1 := by omega
              exact ih4 (k - 1) (by omega) (by rw [← h1, show srcG σ H (sp' σ p) k = srcG σ H (sp' σ p) ((k - 1) + 1) by rw [← hkk], srcG_s, if_neg hng]) (by omega)
            · skip
              refine V.iload_n (pc := 43) 2 dX8_sourceOf_43 rfl ?_
              refine V.iret (pc := 44) (z := ((k : Int) - 1)) dX8_sourceOf_44 rfl ?_
              have e : srcF σ H p = k - 1 := by unfold srcF; rw [if_neg (by omega), ← h1, show srcG σ H (sp' σ p) k = srcG σ H (sp' σ p) ((k - 1) + 1) by rw [show k - 1 + 1 = k by omega], srcG_s, if_pos ⟨b2i_T h25, by omega⟩]
              rw [e, show ((k - 1 : Nat) : Int) = (k : Int) - 1 by omega] at hq
              exact hq
  refine V.locs [1, 2, 0] (ls' := [(0, vR 77), (1, vI ((p : Nat) : Int)), (2, vI (((p : Nat) : Int) - 1))]) rfl ?_
  exact lp4 _ p (by omega) (rfl) (Nat.lt_succ_self _)

set_option maxRecDepth 100000 in
theorem c_X8_isLast (hi hl : HI) (σ : SG) (hC : MR hi σ) (H : Nat → Bool) (hH : ∀ j, j < nn σ → hi 87 j = b2i (H j)) (p : Nat) (hp : p < nn σ) (Q : QT) (hq : Q (some (vI (b2i (lstF σ H p)))) KW hi hl) : Con eX8_isLast [vR 77, vI (p : Nat)] KW hi hl Q := by
  refine Con.ofV (by decide +kernel) (Nat.le_of_ble_eq_true rfl) ?_
  show V eX8_isLast none KW 0 [(0, vR 77), (1, vI ((p : Nat) : Int))] [] hi hl 0 0 Q
  have hwf := hC.1
  have hn16 := hwf.2.2.1
  have hCp := hC.2.2.2.2.1 p hp
  refine V.iconst (pc := 0) (z := 1) dX8_isLast_0 rfl ⟨by decide, by decide⟩ ?_
  refine V.istore_n (pc := 1) (i := 2) dX8_isLast_1 rfl (by decide) (ls' := [(2, vI 1), (0, vR 77), (1, vI ((p : Nat) : Int))]) rfl ?_
  refine V.iload_n (pc := 2) 2 dX8_isLast_2 rfl ?_
  refine V.iconst (pc := 3) (z := 1) dX8_isLast_3 rfl ⟨by decide, by decide⟩ ?_
  refine V.iadd (pc := 4) ((((p + 1) : Nat) : Int)) dX8_isLast_4 (addN (a := p) (b := 1) (by omega)) ?_
  refine V.istore_n (pc := 5) (i := 3) dX8_isLast_5 rfl (by decide) (ls' := [(3, vI (((p + 1) : Nat) : Int)), (2, vI 1), (0, vR 77), (1, vI ((p : Nat) : Int))]) rfl ?_
  have lp6 : ∀ (fu6 : Nat) (k : Nat) (z : Int), (p < k ∧ k ≤ nn σ) → (z = b2i (!(anyB (lstB σ H p) k))) → nn σ - k < fu6 → V eX8_isLast none KW 6 [(0, vR 77), (1, vI ((p : Nat) : Int)), (2, vI z), (3, vI ((k : Nat) : Int))] [] hi hl 0 0 Q := by
    intro fu6
    induction fu6 with
    | zero => intro k z hk hz hm6; exact absurd hm6 (Nat.not_lt_zero _)
    | succ fu6 ih6 =>
      intro k z hk hz hm6
      refine V.iload_n (pc := 6) 3 dX8_isLast_6 rfl ?_
      refine V.aload_n (pc := 7) 0 dX8_isLast_7 rfl ?_
      refine V.gi (pc := 8) 8 8 ((nn σ : Nat) : Int) flX8_138 dX8_isLast_8 (kS_77) (by decide) (by decide) rfl (hC.2.2.2.1) ?_
      refine V.icmp_ge (pc := 11) 54 dX8_isLast_11 (by decide) (fun h11 => ?_) (fun h11 => ?_)
      · skip
        refine V.iload_n (pc := 54) 2 dX8_isLast_54 rfl ?_
        refine V.zret (pc := 55) (z := z) dX8_isLast_55 rfl (by rw [hz]; exact b2i_01 _) ?_
        have e : k = nn σ := by omega
        subst hz
        rw [e]
        exact hq
      · skip
        refine V.iload_n (pc := 14) 2 dX8_isLast_14 rfl ?_
        refine V.if_eq (pc := 15) 46 dX8_isLast_15 (by decide) (fun h15 => ?_) (fun h15 => ?_)
        · have hzt : anyB (lstB σ H p) k = true := by cases hh : anyB (lstB σ H p) k with | true => rfl | false => rw [hh] at hz; exact absurd (hz.symm.trans (by omega)) (by decide)
          refine V.iconst (pc := 46) (z := 0) dX8_isLast_46 rfl ⟨by decide, by decide⟩ ?_
          refine V.istore_n (pc := 47) (i := 2) dX8_isLast_47 rfl (by decide) (ls' := [(2, vI 0), (0, vR 77), (1, vI ((p : Nat) : Int)), (3, vI ((k : Nat) : Int))]) rfl ?_
          refine V.iinc (pc := 48) (r := ((k + 1 : Nat) : Int)) 3 dX8_isLast_48 rfl (w32_of (by omega) (by omega) (by omega)) (by decide) (ls' := [(3, vI ((k + 1 : Nat) : Int)), (2, vI 0), (0, vR 77), (1, vI ((p : Nat) : Int))]) rfl ?_
          refine V.goto (pc := 51) 6 dX8_isLast_51 (by decide) ?_
          refine V.locs [2, 3, 1, 0] (ls' := [(0, vR 77), (1, vI ((p : Nat) : Int)), (2, vI 0), (3, vI ((k + 1 : Nat) : Int))]) rfl ?_
          exact ih6 (k + 1) 0 (by omega) (by rw [show anyB (lstB σ H p) (k + 1) = (anyB (lstB σ H p) k || lstB σ H p k) from rfl, hzt, Bool.true_or]; rfl) (by omega)
        · have hzf : anyB (lstB σ H p) k = false := by cases hh : anyB (lstB σ H p) k with | false => rfl | true => rw [hh] at hz; exact absurd hz h15
          refine V.aload_n (pc := 18) 0 dX8_isLast_18 rfl ?_
          refine V.gr (pc := 19) 8 16 87 flX8_37 dX8_isLast_19 (kS_77) (by decide) (by decide) rfl (kR_77_16) ?_
          refine V.iload_n (pc := 22) 3 dX8_isLast_22 rfl ?_
          refine V.za (pc := 23) (len := 16) k (b2i (H k)) dX8_isLast_23 (kS_87) (rfl) (by omega) (hH _ (by omega)) ?_
          refine V.if_eq (pc := 24) 42 dX8_isLast_24 (by decide) (fun h24 => ?_) (fun h24 => ?_)
          · skip
            refine V.iconst (pc := 42) (z := 1) dX8_isLast_42 rfl ⟨by decide, by decide⟩ ?_
            refine V.goto (pc := 43) 47 dX8_isLast_43 (by decide) ?_
            refine V.istore_n (pc := 47) (i := 2) dX8_isLast_47 rfl (by decide) (ls' := [(2, vI 1), (0, vR 77), (1, vI ((p : Nat) : Int)), (3, vI ((k : Nat) : Int))]) rfl ?_
            refine V.iinc (pc := 48) (r := ((k + 1 : Nat) : Int)) 3 dX8_isLast_48 rfl (w32_of (by omega) (by omega) (by omega)) (by decide) (ls' := [(3, vI ((k + 1 : Nat) : Int)), (2, vI 1), (0, vR 77), (1, vI ((p : Nat) : Int))]) rfl ?_
            refine V.goto (pc := 51) 6 dX8_isLast_51 (by decide) ?_
            refine V.locs [2, 3, 1, 0] (ls' := [(0, vR 77), (1, vI ((p : Nat) : Int)), (2, vI 1), (3, vI ((k + 1 : Nat) : Int))]) rfl ?_
            exact ih6 (k + 1) 1 (by omega) (by rw [show anyB (lstB σ H p) (k + 1) = (anyB (lstB σ H p) k || lstB σ H p k) from rfl, hzf, show lstB σ H p k = false by unfold lstB; rw [b2i_F h24, Bool.and_false]; rfl]; rfl) (by omega)
          · skip
            refine V.aload_n (pc := 27) 0 dX8_isLast_27 rfl ?_
            refine V.gr (pc := 28) 8 6 82 flX8_22 dX8_isLast_28 (kS_77) (by decide) (by decide) rfl (kR_77_6) ?_
            refine V.iload_n (pc := 31) 3 dX8_isLast_31 rfl ?_
            refine V.ia (pc := 32) (len := 16) k ((he σ k : Nat) : Int) dX8_isLast_32 (kS_82) (rfl) (by omega) ((hC.2.2.2.2.1 k (by omega)).2.1) ?_
            refine V.aload_n (pc := 33) 0 dX8_isLast_33 rfl ?_
            refine V.gr (pc := 34) 8 6 82 flX8_22 dX8_isLast_34 (kS_77) (by decide) (by decide) rfl (kR_77_6) ?_
            refine V.iload_n (pc := 37) 1 dX8_isLast_37 rfl ?_
            refine V.ia (pc := 38) (len := 16) p ((he σ p : Nat) : Int) dX8_isLast_38 (kS_82) (rfl) (by omega) (hCp.2.1) ?_
            refine V.icmp_eq (pc := 39) 46 dX8_isLast_39 (by decide) (fun h39 => ?_) (fun h39 => ?_)
            · skip
              refine V.iconst (pc := 46) (z := 0) dX8_isLast_46 rfl ⟨by decide, by decide⟩ ?_
              refine V.istore_n (pc := 47) (i := 2) dX8_isLast_47 rfl (by decide) (ls' := [(2, vI 0), (0, vR 77), (1, vI ((p : Nat) : Int)), (3, vI ((k : Nat) : Int))]) rfl ?_
              refine V.iinc (pc := 48) (r := ((k + 1 : Nat) : Int)) 3 dX8_isLast_48 rfl (w32_of (by omega) (by omega) (by omega)) (by decide) (ls' := [(3, vI ((k + 1 : Nat) : Int)), (2, vI 0), (0, vR 77), (1, vI ((p : Nat) : Int))]) rfl ?_
              refine V.goto (pc := 51) 6 dX8_isLast_51 (by decide) ?_
              refine V.locs [2, 3, 1, 0] (ls' := [(0, vR 77), (1, vI ((p : Nat) : Int)), (2, vI 0), (3, vI ((k + 1 : Nat) : Int))]) rfl ?_
              exact ih6 (k + 1) 0 (by omega) (by rw [show anyB (lstB σ H p) (k + 1) = (anyB (lstB σ H p) k || lstB σ H p k) from rfl, show lstB σ H p k = true by unfold lstB; rw [b2i_T h24, decide_eq_true (show p < k by omega), decide_eq_true (show he σ k = he σ p by omega)]; rfl, Bool.or_true]; rfl) (by omega)
            · skip
              refine V.iconst (pc := 42) (z := 1) dX8_isLast_42 rfl ⟨by decide, by decide⟩ ?_
              refine V.goto (pc := 43) 47 dX8_isLast_43 (by decide) ?_
              refine V.istore_n (pc := 47) (i := 2) dX8_isLast_47 rfl (by decide) (ls' := [(2, vI 1), (0, vR 77), (1, vI ((p : Nat) : Int)), (3, vI ((k : Nat) : Int))]) rfl ?_
              refine V.iinc (pc := 48) (r := ((k + 1 : Nat) : Int)) 3 dX8_isLast_48 rfl (w32_of (by omega) (by omega) (by omega)) (by decide) (ls' := [(3, vI ((k + 1 : Nat) : Int)), (2, vI 1), (0, vR 77), (1, vI ((p : Nat) : Int))]) rfl ?_
              refine V.goto (pc := 51) 6 dX8_isLast_51 (by decide) ?_
              refine V.locs [2, 3, 1, 0] (ls' := [(0, vR 77), (1, vI ((p : Nat) : Int)), (2, vI 1), (3, vI ((k + 1 : Nat) : Int))]) rfl ?_
              exact ih6 (k + 1) 1 (by omega) (by rw [show anyB (lstB σ H p) (k + 1) = (anyB (lstB σ H p) k || lstB σ H p k) from rfl, hzf, show lstB σ H p k = false by unfold lstB; rw [decide_eq_false (show ¬ he σ k = he σ p by omega), Bool.and_false]]; rfl) (by omega)
  refine V.locs [2, 3, 1, 0] (ls' := [(0, vR 77), (1, vI ((p : Nat) : Int)), (2, vI 1), (3, vI (((p + 1) : Nat) : Int))]) rfl ?_
  exact lp6 _ (p + 1) 1 (by omega) (by rw [anyB_f (fun q hq => by unfold lstB; rw [decide_eq_false (show ¬ p < q by omega)]; rfl)]; rfl) (Nat.lt_succ_self _)

set_option maxRecDepth 100000 in
theorem c_X8_hang (hi hl : HI) (σ : SG) (hC : MR hi σ) (H : Nat → Bool) (hH : ∀ j, j < nn σ → hi 87 j = b2i (H j)) (p : Nat) (hp : p < nn σ) (X : FW) (hX : RW (hi 88) (hl 89) X) (hBd : BdW X) (Q : QT) (hq : ∀ f77 f78 f79 f88 f89 : Nat → Int, (∀ j, j ≠ 1 → j ≠ 3 → f77 j = hi 77 j) → RW f88 f89 (hng X (so σ (he σ p)) p (srcF σ H p)) → Q none KW (upR (upR (upR (upR hi 77 f77) 78 f78) 79 f79) 88 f88) (upR hl 89 f89)) : Con eX8_hang [vR 77, vI (p : Nat)] KW hi hl Q := by
  refine Con.ofV (by decide +kernel) (Nat.le_of_ble_eq_true rfl) ?_
  show V eX8_hang none KW 0 [(0, vR 77), (1, vI ((p : Nat) : Int))] [] hi hl 0 0 Q
  refine V.hieq (hi' := (upR (upR (upR (upR hi 77 (hi 77)) 78 (hi 78)) 79 (hi 79)) 88 (hi 88))) (by rw [upR_id, upR_id, upR_id, upR_id]) ?_
  refine V.hleq (hl' := (upR hl 89 (hl 89))) (by rw [upR_id]) ?_
  have hwf := hC.1
  have hn16 := hwf.2.2.1
  have hpp := hwf.2.2.2.1 p hp
  have hCp := hC.2.2.2.2.1 p hp
  have hso := hwf.1 (he σ p) (by omega)
  obtain ⟨hon, hne⟩ := srcF_b (σ := σ) (H := H) (show p < 16 by omega)
  refine V.aload_n (pc := 0) 0 dX8_hang_0 rfl ?_
  refine V.iload_n (pc := 1) 1 dX8_hang_1 rfl ?_
  refine V.callV (pc := 2) (e1 := eX8_sourceOf) (o := 77) (c := 8) 1 [vI ((p : Nat) : Int)] [] mfX8_sourceOf slX8_sourceOf mlX8_172 dX8_hang_2 (kS_77) (by decide) rfl rfl rfl (Nat.le_of_ble_eq_true rfl) ⟨by decide, by decide, by decide, by decide⟩ ?_
  refine c_X8_sourceOf (upR (upR (upR (upR hi 77 (hi 77)) 78 (hi 78)) 79 (hi 79)) 88 (hi 88)) (upR hl 89 (hl 89)) σ hC H hH p (by omega) _ ?_
  refine V.qI (pc := 2) rfl rfl ?_
  refine V.istore_n (pc := 5) (i := 2) dX8_hang_5 rfl (by decide) (ls' := [(2, vI ((srcF σ H p : Nat) : Int)), (0, vR 77), (1, vI ((p : Nat) : Int))]) rfl ?_
  refine V.iconst (pc := 6) (z := 0) dX8_hang_6 rfl ⟨by decide, by decide⟩ ?_
  refine V.istore_n (pc := 7) (i := 3) dX8_hang_7 rfl (by decide) (ls' := [(3, vI 0), (2, vI ((srcF σ H p : Nat) : Int)), (0, vR 77), (1, vI ((p : Nat) : Int))]) rfl ?_
  have lp8 : ∀ (fu8 : Nat) (v : Nat) (f77 : Nat → Int) (f78 : Nat → Int) (f79 : Nat → Int) (f88 : Nat → Int) (f89 : Nat → Int), (v ≤ 364) → (∀ j, j ≠ 1 → j ≠ 3 → f77 j = hi 77 j) → (RW f88 f89 (hngK X (so σ (he σ p)) p (srcF σ H p) v)) → 364 - v < fu8 → V eX8_hang none KW 8 [(0, vR 77), (1, vI ((p : Nat) : Int)), (2, vI (((srcF σ H p) : Nat) : Int)), (3, vI ((v : Nat) : Int))] [] (upR (upR (upR (upR hi 77 f77) 78 f78) 79 f79) 88 f88) (upR hl 89 f89) 0 0 Q := by
    intro fu8
    induction fu8 with
    | zero => intro v f77 f78 f79 f88 f89 hv hf hR hm8; exact absurd hm8 (Nat.not_lt_zero _)
    | succ fu8 ih8 =>
      intro v f77 f78 f79 f88 f89 hv hf hR hm8
      refine V.iload_n (pc := 8) 3 dX8_hang_8 rfl ?_
      refine V.sipush (pc := 9) (z := 364) dX8_hang_9 (by decide +kernel) ⟨by decide, by decide⟩ ?_
      refine V.icmp_ge (pc := 12) 257 dX8_hang_12 (by decide) (fun h12 => ?_) (fun h12 => ?_)
      · skip
        refine V.vret (pc := 257) dX8_hang_257 rfl ?_
        have e : v = 364 := by omega
        subst e
        exact hq _ _ _ _ _ hf (RW_e hR)
      · have hvl : v < 364 := by omega
        have hRp := hR p (by omega) v hvl
        rw [(hngK_p (Ne.symm hne)).1, (hngK_p (Ne.symm hne)).2] at hRp
        have hRo := hR (srcF σ H p) hon v hvl
        rw [hngK_o.1, hngK_o.2] at hRo
        refine V.aload_n (pc := 15) 0 dX8_hang_15 rfl ?_
        refine V.gr (pc := 16) 8 17 88 flX8_41 dX8_hang_16 (kS_77) (by decide) (by decide) rfl (kR_77_17) ?_
        refine V.iload_n (pc := 19) 1 dX8_hang_19 rfl ?_
        refine V.iload_n (pc := 20) 3 dX8_hang_20 rfl ?_
        refine V.callS (pc := 21) (e1 := eX8_at) 2 [vI ((p : Nat) : Int), vI ((v : Nat) : Int)] [vR 88] mfX8_at slX8_at mlX8_175 dX8_hang_21 rfl rfl (Nat.le_of_ble_eq_true rfl) ⟨by decide, by decide, by decide, by decide⟩ ?_
        refine c_X8_at KW (upR (upR (upR (upR hi 77 f77) 78 f78) 79 f79) 88 f88) (upR hl 89 f89) p v (by omega) (by omega) _ ?_
        refine V.qI (pc := 21) rfl rfl ?_
        refine V.ia (pc := 24) (len := 6188) (364 * p + v) (X.1 p v) dX8_hang_24 (kS_88) (rfl) (by omega) (hRp.1) ?_
        refine V.istore (pc := 25) (i := 4) dX8_hang_25 (by decide) (ls' := [(4, vI (X.1 p v)), (0, vR 77), (1, vI ((p : Nat) : Int)), (2, vI (((srcF σ H p) : Nat) : Int)), (3, vI ((v : Nat) : Int))]) rfl ?_
        refine V.aload_n (pc := 27) 1 dX8_hang_27 rfl ?_
        refine V.gr (pc := 28) 8 18 89 flX8_44 dX8_hang_28 (kS_77) (by decide) (by decide) rfl (kR_77_18) ?_
        refine V.iload_n (pc := 31) 2 dX8_hang_31 rfl ?_
        refine V.iload_n (pc := 32) 4 dX8_hang_32 rfl ?_
        refine V.callS (pc := 33) (e1 := eX8_at) 2 [vI ((p : Nat) : Int), vI ((v : Nat) : Int)] [vR 89] mfX8_at slX8_at mlX8_175 dX8_hang_33 rfl rfl (Nat.le_of_ble_eq_true rfl) ⟨by decide, by decide, by decide, by decide⟩ ?_
        refine c_X8_at KW (upR (upR (upR (upR hi 77 f77) 78 f78) 79 f79) 88 f88) (upR hl 89 f89) p v (by omega) (by omega) _ ?_
        refine V.qI (pc := 33) rfl rfl ?_
        refine V.la (pc := 36) (len := 6188) (364 * p + v) (X.2 p v) dX8_hang_36 (kS_89) (rfl) (by omega) (hRp.2) ?_
        refine V.lstore (pc := 37) (i := 5) dX8_hang_37 (by decide) (ls' := [(5, vL (X.2 p v)), (4, vI (X.1 p v)), (0, vR 77), (1, vI ((p : Nat) : Int)), (2, vI (((srcF σ H p) : Nat) : Int)), (3, vI ((v : Nat) : Int))]) rfl ?_
        refine V.aload_n (pc := 39) 2 dX8_hang_39 rfl ?_
        refine V.aload_n (pc := 40) 2 dX8_hang_40 rfl ?_
        refine V.gr (pc := 41) 8 4 80 flX8_16 dX8_hang_41 (kS_77) (by decide) (by decide) rfl (kR_77_4) ?_
        refine V.aload_n (pc := 44) 2 dX8_hang_44 rfl ?_
        refine V.gr (pc := 45) 8 6 82 flX8_22 dX8_hang_45 (kS_77) (by decide) (by decide) rfl (kR_77_6) ?_
        refine V.iload_n (pc := 48) 3 dX8_hang_48 rfl ?_
        refine V.ia (pc := 49) (len := 16) p ((he σ p : Nat) : Int) dX8_hang_49 (kS_82) (rfl) (by omega) (hCp.2.1) ?_
        refine V.ia (pc := 50) (len := 6) (he σ p) (((so σ (he σ p)) : Nat) : Int) dX8_hang_50 (kS_80) (rfl) (by omega) (hC.2.1 _ (by omega)) ?_
        refine V.iload_n (pc := 51) 5 dX8_hang_51 rfl ?_
        refine V.callV (pc := 52) (e1 := eX8_findSlips) (o := 77) (c := 8) 2 [vI (((so σ (he σ p)) : Nat) : Int), vI ((v : Nat) : Int)] [] mfX8_findSlips slX8_findSlips mlX8_144 dX8_hang_52 (kS_77) (by decide) rfl rfl rfl (Nat.le_of_ble_eq_true rfl) ⟨by decide, by decide, by decide, by decide⟩ ?_
        refine c_X8_findSlips (upR (upR (upR (upR hi 77 f77) 78 f78) 79 f79) 88 f88) (upR hl 89 f89) (so σ (he σ p)) v (by omega) (by omega) _ (fun fs gs gw hs1 hs2 hs3 => ?_)
        have hs1 : ∀ j, j ≠ 1 → j ≠ 3 → fs j = f77 j := hs1
        refine V.qV (pc := 52) rfl rfl ?_
        refine V.hieq (hi' := (upR (upR (upR (upR hi 77 fs) 78 gw) 79 gs) 88 f88)) ((upR_c ((upR_c (rs (by decide) (rs (by decide) (rs (by decide) r1)))).trans (rs (by decide) (rs (by decide) r1)))).trans (rs (by decide) r1)) ?_
        refine V.iconst (pc := 55) (z := 0) dX8_hang_55 rfl ⟨by decide, by decide⟩ ?_
        refine V.istore (pc := 56) (i := 7) dX8_hang_56 (by decide) (ls' := [(7, vI 0), (5, vL (X.2 p v)), (4, vI (X.1 p v)), (0, vR 77), (1, vI ((p : Nat) : Int)), (2, vI (((srcF σ H p) : Nat) : Int)), (3, vI ((v : Nat) : Int))]) rfl ?_
        have lp58 : ∀ (fu58 : Nat) (k : Nat) (best : Int) (many : Int), (k ≤ slN (so σ (he σ p)) v) → (best = (wgs (X.1 p) (X.2 p) (so σ (he σ p)) v k).1) → (many = (wgs (X.1 p) (X.2 p) (so σ (he σ p)) v k).2) → slN (so σ (he σ p)) v - k < fu58 → V eX8_hang none KW 58 [(0, vR 77), (1, vI ((p : Nat) : Int)), (2, vI (((srcF σ H p) : Nat) : Int)), (3, vI ((v : Nat) : Int)), (4, vI best), (5, vL many), (7, vI ((k : Nat) : Int))] [] (upR (upR (upR (upR hi 77 fs) 78 gw) 79 gs) 88 f88) (upR hl 89 f89) 0 0 Q := by
          intro fu58
          induction fu58 with
          | zero => intro k best many hk hb hm hm58; exact absurd hm58 (Nat.not_lt_zero _)
          | succ fu58 ih58 =>
            intro k best many hk hb hm hm58
            have hnl := nth_lt (n := k + 1) hso hvl
            have hcx := hBd p (by omega) _ hnl
            have hwb := wgs_b (n := X.2 p) hso hvl (hBd p (by omega)) k
            have h15 := slN_15 hso hvl
            have hRn := hR p (by omega) (nth (so σ (he σ p)) v (k + 1)) hnl
            rw [(hngK_p (Ne.symm hne)).1, (hngK_p (Ne.symm hne)).2] at hRn
            refine V.iload (pc := 58) 6 dX8_hang_58 rfl ?_
            refine V.aload_n (pc := 60) 0 dX8_hang_60 rfl ?_
            refine V.gi (pc := 61) 8 3 ((slN (so σ (he σ p)) v : Nat) : Int) flX8_90 dX8_hang_61 (kS_77) (by decide) (by decide) rfl (hs2) ?_
            refine V.icmp_ge (pc := 64) 168 dX8_hang_64 (by decide) (fun h64 => ?_) (fun h64 => ?_)
            · have hke : k = slN (so σ (he σ p)) v := by omega
              have ewg : (wgs (X.1 p) (X.2 p) (so σ (he σ p)) v k) = wg (X.1 p) (X.2 p) (so σ (he σ p)) v := by unfold wg; rw [hke]
              rw [ewg] at hb hm
              have hcg := wg_b (n := X.2 p) hso hvl (hBd p (by omega))
              have hco := hBd (srcF σ H p) hon v hvl
              refine V.aload_n (pc := 168) 0 dX8_hang_168 rfl ?_
              refine V.gr (pc := 169) 8 17 88 flX8_41 dX8_hang_169 (kS_77) (by decide) (by decide) rfl (kR_77_17) ?_
              refine V.iload_n (pc := 172) 2 dX8_hang_172 rfl ?_
              refine V.iload_n (pc := 173) 3 dX8_hang_173 rfl ?_
              refine V.callS (pc := 174) (e1 := eX8_at) 2 [vI (((srcF σ H p) : Nat) : Int), vI ((v : Nat) : Int)] [vR 88] mfX8_at slX8_at mlX8_175 dX8_hang_174 rfl rfl (Nat.le_of_ble_eq_true rfl) ⟨by decide, by decide, by decide, by decide⟩ ?_
              refine c_X8_at KW (upR (upR (upR (upR hi 77 fs) 78 gw) 79 gs) 88 f88) (upR hl 89 f89) (srcF σ H p) v (by omega) (by omega) _ ?_
              refine V.qI (pc := 174) rfl rfl ?_
              refine V.aload_n (pc := 177) 0 dX8_hang_177 rfl ?_
              refine V.gr (pc := 178) 8 17 88 flX8_41 dX8_hang_178 (kS_77) (by decide) (by decide) rfl (kR_77_17) ?_
              refine V.iload_n (pc := 181) 2 dX8_hang_181 rfl ?_
              refine V.iload_n (pc := 182) 3 dX8_hang_182 rfl ?_
              refine V.callS (pc := 183) (e1 := eX8_at) 2 [vI (((srcF σ H p) : Nat) : Int), vI ((v : Nat) : Int)] [vR 88, vI (((364 * (srcF σ H p) + v) : Nat) : Int), vR 88] mfX8_at slX8_at mlX8_175 dX8_hang_183 rfl rfl (Nat.le_of_ble_eq_true rfl) ⟨by decide, by decide, by decide, by decide⟩ ?_
              refine c_X8_at KW (upR (upR (upR (upR hi 77 fs) 78 gw) 79 gs) 88 f88) (upR hl 89 f89) (srcF σ H p) v (by omega) (by omega) _ ?_
              refine V.qI (pc := 183) rfl rfl ?_
              refine V.ia (pc := 186) (len := 6188) (364 * (srcF σ H p) + v) (X.1 (srcF σ H p) v) dX8_hang_186 (kS_88) (rfl) (by omega) (hRo.1) ?_
              refine V.iload (pc := 187) 4 dX8_hang_187 rfl ?_
              refine V.iadd (pc := 189) ((X.1 (srcF σ H p) v + best)) dX8_hang_189 (w32_of (by omega) (by omega) (by omega)) ?_
              refine V.sipush (pc := 190) (z := 1000) dX8_hang_190 (by decide +kernel) ⟨by decide, by decide⟩ ?_
              refine V.icmp_ge (pc := 193) 212 dX8_hang_193 (by decide) (fun h193 => ?_) (fun h193 => ?_)
              · have hfc : hgC X (so σ (he σ p)) p (srcF σ H p) v = 1000 := by unfold hgC cap; rw [← hb, if_neg (by omega)]
                refine V.sipush (pc := 212) (z := 1000) dX8_hang_212 (by decide +kernel) ⟨by decide, by decide⟩ ?_
                refine V.is (pc := 215) (len := 6188) (hi' := (upR (upR (upR (upR hi 77 fs) 78 gw) 79 gs) 88 (updF f88 (364 * (srcF σ H p) + v) 1000))) (364 * (srcF σ H p) + v) dX8_hang_215 (kS_88) (rfl) (by omega) u1 ?_
                refine V.aload_n (pc := 216) 0 dX8_hang_216 rfl ?_
                refine V.gr (pc := 217) 8 18 89 flX8_44 dX8_hang_217 (kS_77) (by decide) (by decide) rfl (kR_77_18) ?_
                refine V.iload_n (pc := 220) 2 dX8_hang_220 rfl ?_
                refine V.iload_n (pc := 221) 3 dX8_hang_221 rfl ?_
                refine V.callS (pc := 222) (e1 := eX8_at) 2 [vI (((srcF σ H p) : Nat) : Int), vI ((v : Nat) : Int)] [vR 89] mfX8_at slX8_at mlX8_175 dX8_hang_222 rfl rfl (Nat.le_of_ble_eq_true rfl) ⟨by decide, by decide, by decide, by decide⟩ ?_
                refine c_X8_at KW (upR (upR (upR (upR hi 77 fs) 78 gw) 79 gs) 88 (updF f88 (364 * (srcF σ H p) + v) 1000)) (upR hl 89 f89) (srcF σ H p) v (by omega) (by omega) _ ?_
                refine V.qI (pc := 222) rfl rfl ?_
                refine V.dup2 (pc := 225) dX8_hang_225 rfl rfl ?_
                refine V.la (pc := 226) (len := 6188) (364 * (srcF σ H p) + v) (X.2 (srcF σ H p) v) dX8_hang_226 (kS_89) (rfl) (by omega) (hRo.2) ?_
                refine V.aload_n (pc := 227) 0 dX8_hang_227 rfl ?_
                refine V.gr (pc := 228) 8 17 88 flX8_41 dX8_hang_228 (kS_77) (by decide) (by decide) rfl (kR_77_17) ?_
                refine V.iload_n (pc := 231) 2 dX8_hang_231 rfl ?_
                refine V.iload_n (pc := 232) 3 dX8_hang_232 rfl ?_
                refine V.callS (pc := 233) (e1 := eX8_at) 2 [vI (((srcF σ H p) : Nat) : Int), vI ((v : Nat) : Int)] [vR 88, vL (X.2 (srcF σ H p) v), vI (((364 * (srcF σ H p) + v) : Nat) : Int), vR 89] mfX8_at slX8_at mlX8_175 dX8_hang_233 rfl rfl (Nat.le_of_ble_eq_true rfl) ⟨by decide, by decide, by decide, by decide⟩ ?_
                refine c_X8_at KW (upR (upR (upR (upR hi 77 fs) 78 gw) 79 gs) 88 (updF f88 (364 * (srcF σ H p) + v) 1000)) (upR hl 89 f89) (srcF σ H p) v (by omega) (by omega) _ ?_
                refine V.qI (pc := 233) rfl rfl ?_
                refine V.ia (pc := 236) (len := 6188) (364 * (srcF σ H p) + v) (hgC X (so σ (he σ p)) p (srcF σ H p) v) dX8_hang_236 (kS_88) (rfl) (by omega) (by show updF f88 _ _ _ = _; rw [updF_s]; exact hfc.symm) ?_
                refine V.sipush (pc := 237) (z := 1000) dX8_hang_237 (by decide +kernel) ⟨by decide, by decide⟩ ?_
                refine V.icmp_ge (pc := 240) 248 dX8_hang_240 (by decide) (fun h240 => ?_) (fun h240 => ?_)
                · skip
                  refine V.lconst (pc := 248) (z := 0) dX8_hang_248 (by decide +kernel) ⟨by decide, by decide⟩ ?_
                  refine V.lmul (pc := 249) ((hgN X (so σ (he σ p)) p (srcF σ H p) v)) dX8_hang_249 (by unfold hgN; rw [if_neg (by omega)]) ?_
                  refine V.js (pc := 250) (len := 6188) (hl' := (upR hl 89 (updF f89 (364 * (srcF σ H p) + v) (hgN X (so σ (he σ p)) p (srcF σ H p) v)))) (364 * (srcF σ H p) + v) dX8_hang_250 (kS_89) (rfl) (by omega) u1 ?_
                  have hny : hgN X (so σ (he σ p)) p (srcF σ H p) v = hgN X (so σ (he σ p)) p (srcF σ H p) v := rfl
                  have hfx := hfc.symm
                  refine V.iinc (pc := 251) (r := ((v + 1 : Nat) : Int)) 3 dX8_hang_251 rfl (w32_of (by omega) (by omega) (by omega)) (by decide) (ls' := [(3, vI ((v + 1 : Nat) : Int)), (0, vR 77), (1, vI ((p : Nat) : Int)), (2, vI (((srcF σ H p) : Nat) : Int)), (4, vI best), (5, vL many), (7, vI ((k : Nat) : Int))]) rfl ?_
                  refine V.goto (pc := 254) 8 dX8_hang_254 (by decide) ?_
                  refine V.locs [1, 2, 3, 0] (ls' := [(0, vR 77), (1, vI ((p : Nat) : Int)), (2, vI (((srcF σ H p) : Nat) : Int)), (3, vI ((v + 1 : Nat) : Int))]) rfl ?_
                  exact ih8 (v + 1) fs gw gs (updF f88 (364 * (srcF σ H p) + v) 1000) (updF f89 (364 * (srcF σ H p) + v) (hgN X (so σ (he σ p)) p (srcF σ H p) v)) (by omega) (fun j h1 h3 => (hs1 j h1 h3).trans (hf j h1 h3)) (RW_k hR hon (by omega) hfx hny) (by omega)
                · skip
                  refine V.lload (pc := 243) 5 dX8_hang_243 rfl ?_
                  refine V.goto (pc := 245) 249 dX8_hang_245 (by decide) ?_
                  refine V.lmul (pc := 249) ((hgN X (so σ (he σ p)) p (srcF σ H p) v)) dX8_hang_249 (by unfold hgN; rw [if_pos (by omega), ← hm]) ?_
                  refine V.js (pc := 250) (len := 6188) (hl' := (upR hl 89 (updF f89 (364 * (srcF σ H p) + v) (hgN X (so σ (he σ p)) p (srcF σ H p) v)))) (364 * (srcF σ H p) + v) dX8_hang_250 (kS_89) (rfl) (by omega) u1 ?_
                  have hny : hgN X (so σ (he σ p)) p (srcF σ H p) v = hgN X (so σ (he σ p)) p (srcF σ H p) v := rfl
                  have hfx := hfc.symm
                  refine V.iinc (pc := 251) (r := ((v + 1 : Nat) : Int)) 3 dX8_hang_251 rfl (w32_of (by omega) (by omega) (by omega)) (by decide) (ls' := [(3, vI ((v + 1 : Nat) : Int)), (0, vR 77), (1, vI ((p : Nat) : Int)), (2, vI (((srcF σ H p) : Nat) : Int)), (4, vI best), (5, vL many), (7, vI ((k : Nat) : Int))]) rfl ?_
                  refine V.goto (pc := 254) 8 dX8_hang_254 (by decide) ?_
                  refine V.locs [1, 2, 3, 0] (ls' := [(0, vR 77), (1, vI ((p : Nat) : Int)), (2, vI (((srcF σ H p) : Nat) : Int)), (3, vI ((v + 1 : Nat) : Int))]) rfl ?_
                  exact ih8 (v + 1) fs gw gs (updF f88 (364 * (srcF σ H p) + v) 1000) (updF f89 (364 * (srcF σ H p) + v) (hgN X (so σ (he σ p)) p (srcF σ H p) v)) (by omega) (fun j h1 h3 => (hs1 j h1 h3).trans (hf j h1 h3)) (RW_k hR hon (by omega) hfx hny) (by omega)
              · have hfc : hgC X (so σ (he σ p)) p (srcF σ H p) v = X.1 (srcF σ H p) v + best := by unfold hgC cap; rw [← hb, if_pos (by omega)]
                refine V.aload_n (pc := 196) 0 dX8_hang_196 rfl ?_
                refine V.gr (pc := 197) 8 17 88 flX8_41 dX8_hang_197 (kS_77) (by decide) (by decide) rfl (kR_77_17) ?_
                refine V.iload_n (pc := 200) 2 dX8_hang_200 rfl ?_
                refine V.iload_n (pc := 201) 3 dX8_hang_201 rfl ?_
                refine V.callS (pc := 202) (e1 := eX8_at) 2 [vI (((srcF σ H p) : Nat) : Int), vI ((v : Nat) : Int)] [vR 88, vI (((364 * (srcF σ H p) + v) : Nat) : Int), vR 88] mfX8_at slX8_at mlX8_175 dX8_hang_202 rfl rfl (Nat.le_of_ble_eq_true rfl) ⟨by decide, by decide, by decide, by decide⟩ ?_
                refine c_X8_at KW (upR (upR (upR (upR hi 77 fs) 78 gw) 79 gs) 88 f88) (upR hl 89 f89) (srcF σ H p) v (by omega) (by omega) _ ?_
                refine V.qI (pc := 202) rfl rfl ?_
                refine V.ia (pc := 205) (len := 6188) (364 * (srcF σ H p) + v) (X.1 (srcF σ H p) v) dX8_hang_205 (kS_88) (rfl) (by omega) (hRo.1) ?_
                refine V.iload (pc := 206) 4 dX8_hang_206 rfl ?_
                refine V.iadd (pc := 208) ((X.1 (srcF σ H p) v + best)) dX8_hang_208 (w32_of (by omega) (by omega) (by omega)) ?_
                refine V.goto (pc := 209) 215 dX8_hang_209 (by decide) ?_
                refine V.is (pc := 215) (len := 6188) (hi' := (upR (upR (upR (upR hi 77 fs) 78 gw) 79 gs) 88 (updF f88 (364 * (srcF σ H p) + v) (X.1 (srcF σ H p) v + best)))) (364 * (srcF σ H p) + v) dX8_hang_215 (kS_88) (rfl) (by omega) u1 ?_
                refine V.aload_n (pc := 216) 0 dX8_hang_216 rfl ?_
                refine V.gr (pc := 217) 8 18 89 flX8_44 dX8_hang_217 (kS_77) (by decide) (by decide) rfl (kR_77_18) ?_
                refine V.iload_n (pc := 220) 2 dX8_hang_220 rfl ?_
                refine V.iload_n (pc := 221) 3 dX8_hang_221 rfl ?_
                refine V.callS (pc := 222) (e1 := eX8_at) 2 [vI (((srcF σ H p) : Nat) : Int), vI ((v : Nat) : Int)] [vR 89] mfX8_at slX8_at mlX8_175 dX8_hang_222 rfl rfl (Nat.le_of_ble_eq_true rfl) ⟨by decide, by decide, by decide, by decide⟩ ?_
                refine c_X8_at KW (upR (upR (upR (upR hi 77 fs) 78 gw) 79 gs) 88 (updF f88 (364 * (srcF σ H p) + v) (X.1 (srcF σ H p) v + best))) (upR hl 89 f89) (srcF σ H p) v (by omega) (by omega) _ ?_
                refine V.qI (pc := 222) rfl rfl ?_
                refine V.dup2 (pc := 225) dX8_hang_225 rfl rfl ?_
                refine V.la (pc := 226) (len := 6188) (364 * (srcF σ H p) + v) (X.2 (srcF σ H p) v) dX8_hang_226 (kS_89) (rfl) (by omega) (hRo.2) ?_
                refine V.aload_n (pc := 227) 0 dX8_hang_227 rfl ?_
                refine V.gr (pc := 228) 8 17 88 flX8_41 dX8_hang_228 (kS_77) (by decide) (by decide) rfl (kR_77_17) ?_
                refine V.iload_n (pc := 231) 2 dX8_hang_231 rfl ?_
                refine V.iload_n (pc := 232) 3 dX8_hang_232 rfl ?_
                refine V.callS (pc := 233) (e1 := eX8_at) 2 [vI (((srcF σ H p) : Nat) : Int), vI ((v : Nat) : Int)] [vR 88, vL (X.2 (srcF σ H p) v), vI (((364 * (srcF σ H p) + v) : Nat) : Int), vR 89] mfX8_at slX8_at mlX8_175 dX8_hang_233 rfl rfl (Nat.le_of_ble_eq_true rfl) ⟨by decide, by decide, by decide, by decide⟩ ?_
                refine c_X8_at KW (upR (upR (upR (upR hi 77 fs) 78 gw) 79 gs) 88 (updF f88 (364 * (srcF σ H p) + v) (X.1 (srcF σ H p) v + best))) (upR hl 89 f89) (srcF σ H p) v (by omega) (by omega) _ ?_
                refine V.qI (pc := 233) rfl rfl ?_
                refine V.ia (pc := 236) (len := 6188) (364 * (srcF σ H p) + v) (hgC X (so σ (he σ p)) p (srcF σ H p) v) dX8_hang_236 (kS_88) (rfl) (by omega) (by show updF f88 _ _ _ = _; rw [updF_s]; exact hfc.symm) ?_
                refine V.sipush (pc := 237) (z := 1000) dX8_hang_237 (by decide +kernel) ⟨by decide, by decide⟩ ?_
                refine V.icmp_ge (pc := 240) 248 dX8_hang_240 (by decide) (fun h240 => ?_) (fun h240 => ?_)
                · skip
                  refine V.lconst (pc := 248) (z := 0) dX8_hang_248 (by decide +kernel) ⟨by decide, by decide⟩ ?_
                  refine V.lmul (pc := 249) ((hgN X (so σ (he σ p)) p (srcF σ H p) v)) dX8_hang_249 (by unfold hgN; rw [if_neg (by omega)]) ?_
                  refine V.js (pc := 250) (len := 6188) (hl' := (upR hl 89 (updF f89 (364 * (srcF σ H p) + v) (hgN X (so σ (he σ p)) p (srcF σ H p) v)))) (364 * (srcF σ H p) + v) dX8_hang_250 (kS_89) (rfl) (by omega) u1 ?_
                  have hny : hgN X (so σ (he σ p)) p (srcF σ H p) v = hgN X (so σ (he σ p)) p (srcF σ H p) v := rfl
                  have hfx := hfc.symm
                  refine V.iinc (pc := 251) (r := ((v + 1 : Nat) : Int)) 3 dX8_hang_251 rfl (w32_of (by omega) (by omega) (by omega)) (by decide) (ls' := [(3, vI ((v + 1 : Nat) : Int)), (0, vR 77), (1, vI ((p : Nat) : Int)), (2, vI (((srcF σ H p) : Nat) : Int)), (4, vI best), (5, vL many), (7, vI ((k : Nat) : Int))]) rfl ?_
                  refine V.goto (pc := 254) 8 dX8_hang_254 (by decide) ?_
                  refine V.locs [1, 2, 3, 0] (ls' := [(0, vR 77), (1, vI ((p : Nat) : Int)), (2, vI (((srcF σ H p) : Nat) : Int)), (3, vI ((v + 1 : Nat) : Int))]) rfl ?_
                  exact ih8 (v + 1) fs gw gs (updF f88 (364 * (srcF σ H p) + v) (X.1 (srcF σ H p) v + best)) (updF f89 (364 * (srcF σ H p) + v) (hgN X (so σ (he σ p)) p (srcF σ H p) v)) (by omega) (fun j h1 h3 => (hs1 j h1 h3).trans (hf j h1 h3)) (RW_k hR hon (by omega) hfx hny) (by omega)
                · skip
                  refine V.lload (pc := 243) 5 dX8_hang_243 rfl ?_
                  refine V.goto (pc := 245) 249 dX8_hang_245 (by decide) ?_
                  refine V.lmul (pc := 249) ((hgN X (so σ (he σ p)) p (srcF σ H p) v)) dX8_hang_249 (by unfold hgN; rw [if_pos (by omega), ← hm]) ?_
                  refine V.js (pc := 250) (len := 6188) (hl' := (upR hl 89 (updF f89 (364 * (srcF σ H p) + v) (hgN X (so σ (he σ p)) p (srcF σ H p) v)))) (364 * (srcF σ H p) + v) dX8_hang_250 (kS_89) (rfl) (by omega) u1 ?_
                  have hny : hgN X (so σ (he σ p)) p (srcF σ H p) v = hgN X (so σ (he σ p)) p (srcF σ H p) v := rfl
                  have hfx := hfc.symm
                  refine V.iinc (pc := 251) (r := ((v + 1 : Nat) : Int)) 3 dX8_hang_251 rfl (w32_of (by omega) (by omega) (by omega)) (by decide) (ls' := [(3, vI ((v + 1 : Nat) : Int)), (0, vR 77), (1, vI ((p : Nat) : Int)), (2, vI (((srcF σ H p) : Nat) : Int)), (4, vI best), (5, vL many), (7, vI ((k : Nat) : Int))]) rfl ?_
                  refine V.goto (pc := 254) 8 dX8_hang_254 (by decide) ?_
                  refine V.locs [1, 2, 3, 0] (ls' := [(0, vR 77), (1, vI ((p : Nat) : Int)), (2, vI (((srcF σ H p) : Nat) : Int)), (3, vI ((v + 1 : Nat) : Int))]) rfl ?_
                  exact ih8 (v + 1) fs gw gs (updF f88 (364 * (srcF σ H p) + v) (X.1 (srcF σ H p) v + best)) (updF f89 (364 * (srcF σ H p) + v) (hgN X (so σ (he σ p)) p (srcF σ H p) v)) (by omega) (fun j h1 h3 => (hs1 j h1 h3).trans (hf j h1 h3)) (RW_k hR hon (by omega) hfx hny) (by omega)
            · skip
              refine V.iconst (pc := 67) (z := 1) dX8_hang_67 rfl ⟨by decide, by decide⟩ ?_
              refine V.aload_n (pc := 68) 0 dX8_hang_68 rfl ?_
              refine V.gr (pc := 69) 8 17 88 flX8_41 dX8_hang_69 (kS_77) (by decide) (by decide) rfl (kR_77_17) ?_
              refine V.iload_n (pc := 72) 1 dX8_hang_72 rfl ?_
              refine V.aload_n (pc := 73) 0 dX8_hang_73 rfl ?_
              refine V.gr (pc := 74) 8 2 79 flX8_13 dX8_hang_74 (kS_77) (by decide) (by decide) rfl (kR_77_2) ?_
              refine V.iload (pc := 77) 6 dX8_hang_77 rfl ?_
              refine V.ia (pc := 79) (len := 40) k (((nth (so σ (he σ p)) v (k + 1)) : Nat) : Int) dX8_hang_79 (kS_79) (rfl) (by omega) (by rw [nth_in (by omega)]; exact hs3 _ (by omega)) ?_
              refine V.callS (pc := 80) (e1 := eX8_at) 2 [vI ((p : Nat) : Int), vI (((nth (so σ (he σ p)) v (k + 1)) : Nat) : Int)] [vR 88, vI 1] mfX8_at slX8_at mlX8_175 dX8_hang_80 rfl rfl (Nat.le_of_ble_eq_true rfl) ⟨by decide, by decide, by decide, by decide⟩ ?_
              refine c_X8_at KW (upR (upR (upR (upR hi 77 fs) 78 gw) 79 gs) 88 f88) (upR hl 89 f89) p (nth (so σ (he σ p)) v (k + 1)) (by omega) (by omega) _ ?_
              refine V.qI (pc := 80) rfl rfl ?_
              refine V.ia (pc := 83) (len := 6188) (364 * p + (nth (so σ (he σ p)) v (k + 1))) (X.1 p (nth (so σ (he σ p)) v (k + 1))) dX8_hang_83 (kS_88) (rfl) (by omega) (hRn.1) ?_
              refine V.iadd (pc := 84) ((X.1 p (nth (so σ (he σ p)) v (k + 1)) + 1)) dX8_hang_84 (w32_of (by omega) (by omega) (by omega)) ?_
              refine V.istore (pc := 85) (i := 8) dX8_hang_85 (by decide) (ls' := [(8, vI (X.1 p (nth (so σ (he σ p)) v (k + 1)) + 1)), (0, vR 77), (1, vI ((p : Nat) : Int)), (2, vI (((srcF σ H p) : Nat) : Int)), (3, vI ((v : Nat) : Int)), (4, vI best), (5, vL many), (7, vI ((k : Nat) : Int))]) rfl ?_
              refine V.iload (pc := 87) 0 dX8_hang_87 rfl ?_
              refine V.iload (pc := 89) 5 dX8_hang_89 rfl ?_
              refine V.icmp_ge (pc := 91) 113 dX8_hang_91 (by decide) (fun h91 => ?_) (fun h91 => ?_)
              · skip
                refine V.iload (pc := 113) 0 dX8_hang_113 rfl ?_
                refine V.iload (pc := 115) 5 dX8_hang_115 rfl ?_
                refine V.icmp_ne (pc := 117) 142 dX8_hang_117 (by decide) (fun h117 => ?_) (fun h117 => ?_)
                · skip
                  refine V.lload (pc := 142) 6 dX8_hang_142 rfl ?_
                  refine V.lstore (pc := 144) (i := 5) dX8_hang_144 (by decide) (ls' := [(5, vL many), (8, vI (X.1 p (nth (so σ (he σ p)) v (k + 1)) + 1)), (0, vR 77), (1, vI ((p : Nat) : Int)), (2, vI (((srcF σ H p) : Nat) : Int)), (3, vI ((v : Nat) : Int)), (4, vI best), (7, vI ((k : Nat) : Int))]) rfl ?_
                  refine V.iload (pc := 146) 1 dX8_hang_146 rfl ?_
                  refine V.iload (pc := 148) 6 dX8_hang_148 rfl ?_
                  refine V.icmp_ge (pc := 150) 158 dX8_hang_150 (by decide) (fun h150 => ?_) (fun hc => by exfalso; omega)
                  refine V.iload (pc := 158) 6 dX8_hang_158 rfl ?_
                  refine V.istore (pc := 160) (i := 4) dX8_hang_160 (by decide) (ls' := [(4, vI best), (5, vL many), (8, vI (X.1 p (nth (so σ (he σ p)) v (k + 1)) + 1)), (0, vR 77), (1, vI ((p : Nat) : Int)), (2, vI (((srcF σ H p) : Nat) : Int)), (3, vI ((v : Nat) : Int)), (7, vI ((k : Nat) : Int))]) rfl ?_
                  refine V.iinc (pc := 162) (r := ((k + 1 : Nat) : Int)) 7 dX8_hang_162 rfl (w32_of (by omega) (by omega) (by omega)) (by decide) (ls' := [(7, vI ((k + 1 : Nat) : Int)), (4, vI best), (5, vL many), (8, vI (X.1 p (nth (so σ (he σ p)) v (k + 1)) + 1)), (0, vR 77), (1, vI ((p : Nat) : Int)), (2, vI (((srcF σ H p) : Nat) : Int)), (3, vI ((v : Nat) : Int))]) rfl ?_
                  refine V.goto (pc := 165) 58 dX8_hang_165 (by decide) ?_
                  refine V.locs [4, 5, 6, 7, 1, 2, 0] (ls' := [(0, vR 77), (1, vI ((p : Nat) : Int)), (2, vI (((srcF σ H p) : Nat) : Int)), (3, vI ((v : Nat) : Int)), (4, vI best), (5, vL many), (7, vI ((k + 1 : Nat) : Int))]) rfl ?_
                  exact ih58 (k + 1) best many (by omega) (by rw [wgs_skip (by omega)]; exact hb) (by rw [wgs_skip (by omega)]; exact hm) (by omega)
                · skip
                  refine V.lload (pc := 120) 6 dX8_hang_120 rfl ?_
                  refine V.aload_n (pc := 122) 1 dX8_hang_122 rfl ?_
                  refine V.gr (pc := 123) 8 18 89 flX8_44 dX8_hang_123 (kS_77) (by decide) (by decide) rfl (kR_77_18) ?_
                  refine V.iload_n (pc := 126) 2 dX8_hang_126 rfl ?_
                  refine V.aload_n (pc := 127) 1 dX8_hang_127 rfl ?_
                  refine V.gr (pc := 128) 8 2 79 flX8_13 dX8_hang_128 (kS_77) (by decide) (by decide) rfl (kR_77_2) ?_
                  refine V.iload (pc := 131) 7 dX8_hang_131 rfl ?_
                  refine V.ia (pc := 133) (len := 40) k (((nth (so σ (he σ p)) v (k + 1)) : Nat) : Int) dX8_hang_133 (kS_79) (rfl) (by omega) (by rw [nth_in (by omega)]; exact hs3 _ (by omega)) ?_
                  refine V.callS (pc := 134) (e1 := eX8_at) 2 [vI ((p : Nat) : Int), vI (((nth (so σ (he σ p)) v (k + 1)) : Nat) : Int)] [vR 89, vL many] mfX8_at slX8_at mlX8_175 dX8_hang_134 rfl rfl (Nat.le_of_ble_eq_true rfl) ⟨by decide, by decide, by decide, by decide⟩ ?_
                  refine c_X8_at KW (upR (upR (upR (upR hi 77 fs) 78 gw) 79 gs) 88 f88) (upR hl 89 f89) p (nth (so σ (he σ p)) v (k + 1)) (by omega) (by omega) _ ?_
                  refine V.qI (pc := 134) rfl rfl ?_
                  refine V.la (pc := 137) (len := 6188) (364 * p + (nth (so σ (he σ p)) v (k + 1))) (X.2 p (nth (so σ (he σ p)) v (k + 1))) dX8_hang_137 (kS_89) (rfl) (by omega) (hRn.2) ?_
                  refine V.ladd (pc := 138) ((w64 (many + X.2 p (nth (so σ (he σ p)) v (k + 1))))) dX8_hang_138 rfl ?_
                  refine V.goto (pc := 139) 144 dX8_hang_139 (by decide) ?_
                  refine V.lstore (pc := 144) (i := 5) dX8_hang_144 (by decide) (ls' := [(5, vL (w64 (many + X.2 p (nth (so σ (he σ p)) v (k + 1))))), (8, vI (X.1 p (nth (so σ (he σ p)) v (k + 1)) + 1)), (0, vR 77), (1, vI ((p : Nat) : Int)), (2, vI (((srcF σ H p) : Nat) : Int)), (3, vI ((v : Nat) : Int)), (4, vI best), (7, vI ((k : Nat) : Int))]) rfl ?_
                  refine V.iload (pc := 146) 1 dX8_hang_146 rfl ?_
                  refine V.iload (pc := 148) 6 dX8_hang_148 rfl ?_
                  refine V.icmp_ge (pc := 150) 158 dX8_hang_150 (by decide) (fun h150 => ?_) (fun hc => by exfalso; omega)
                  refine V.iload (pc := 158) 6 dX8_hang_158 rfl ?_
                  refine V.istore (pc := 160) (i := 4) dX8_hang_160 (by decide) (ls' := [(4, vI best), (5, vL (w64 (many + X.2 p (nth (so σ (he σ p)) v (k + 1))))), (8, vI (X.1 p (nth (so σ (he σ p)) v (k + 1)) + 1)), (0, vR 77), (1, vI ((p : Nat) : Int)), (2, vI (((srcF σ H p) : Nat) : Int)), (3, vI ((v : Nat) : Int)), (7, vI ((k : Nat) : Int))]) rfl ?_
                  refine V.iinc (pc := 162) (r := ((k + 1 : Nat) : Int)) 7 dX8_hang_162 rfl (w32_of (by omega) (by omega) (by omega)) (by decide) (ls' := [(7, vI ((k + 1 : Nat) : Int)), (4, vI best), (5, vL (w64 (many + X.2 p (nth (so σ (he σ p)) v (k + 1))))), (8, vI (X.1 p (nth (so σ (he σ p)) v (k + 1)) + 1)), (0, vR 77), (1, vI ((p : Nat) : Int)), (2, vI (((srcF σ H p) : Nat) : Int)), (3, vI ((v : Nat) : Int))]) rfl ?_
                  refine V.goto (pc := 165) 58 dX8_hang_165 (by decide) ?_
                  refine V.locs [4, 5, 6, 7, 1, 2, 0] (ls' := [(0, vR 77), (1, vI ((p : Nat) : Int)), (2, vI (((srcF σ H p) : Nat) : Int)), (3, vI ((v : Nat) : Int)), (4, vI best), (5, vL (w64 (many + X.2 p (nth (so σ (he σ p)) v (k + 1))))), (7, vI ((k + 1 : Nat) : Int))]) rfl ?_
                  exact ih58 (k + 1) best (w64 (many + X.2 p (nth (so σ (he σ p)) v (k + 1)))) (by omega) (by rw [wgs_eq (by omega) (by omega)]; dsimp only; omega) (by rw [wgs_eq (by omega) (by omega), hm]) (by omega)
              · skip
                refine V.aload_n (pc := 94) 1 dX8_hang_94 rfl ?_
                refine V.gr (pc := 95) 8 18 89 flX8_44 dX8_hang_95 (kS_77) (by decide) (by decide) rfl (kR_77_18) ?_
                refine V.iload_n (pc := 98) 2 dX8_hang_98 rfl ?_
                refine V.aload_n (pc := 99) 1 dX8_hang_99 rfl ?_
                refine V.gr (pc := 100) 8 2 79 flX8_13 dX8_hang_100 (kS_77) (by decide) (by decide) rfl (kR_77_2) ?_
                refine V.iload (pc := 103) 7 dX8_hang_103 rfl ?_
                refine V.ia (pc := 105) (len := 40) k (((nth (so σ (he σ p)) v (k + 1)) : Nat) : Int) dX8_hang_105 (kS_79) (rfl) (by omega) (by rw [nth_in (by omega)]; exact hs3 _ (by omega)) ?_
                refine V.callS (pc := 106) (e1 := eX8_at) 2 [vI ((p : Nat) : Int), vI (((nth (so σ (he σ p)) v (k + 1)) : Nat) : Int)] [vR 89] mfX8_at slX8_at mlX8_175 dX8_hang_106 rfl rfl (Nat.le_of_ble_eq_true rfl) ⟨by decide, by decide, by decide, by decide⟩ ?_
                refine c_X8_at KW (upR (upR (upR (upR hi 77 fs) 78 gw) 79 gs) 88 f88) (upR hl 89 f89) p (nth (so σ (he σ p)) v (k + 1)) (by omega) (by omega) _ ?_
                refine V.qI (pc := 106) rfl rfl ?_
                refine V.la (pc := 109) (len := 6188) (364 * p + (nth (so σ (he σ p)) v (k + 1))) (X.2 p (nth (so σ (he σ p)) v (k + 1))) dX8_hang_109 (kS_89) (rfl) (by omega) (hRn.2) ?_
                refine V.goto (pc := 110) 144 dX8_hang_110 (by decide) ?_
                refine V.lstore (pc := 144) (i := 5) dX8_hang_144 (by decide) (ls' := [(5, vL (X.2 p (nth (so σ (he σ p)) v (k + 1)))), (8, vI (X.1 p (nth (so σ (he σ p)) v (k + 1)) + 1)), (0, vR 77), (1, vI ((p : Nat) : Int)), (2, vI (((srcF σ H p) : Nat) : Int)), (3, vI ((v : Nat) : Int)), (4, vI best), (7, vI ((k : Nat) : Int))]) rfl ?_
                refine V.iload (pc := 146) 1 dX8_hang_146 rfl ?_
                refine V.iload (pc := 148) 6 dX8_hang_148 rfl ?_
                refine V.icmp_ge (pc := 150) 158 dX8_hang_150 (by decide) (fun hc => by exfalso; omega) (fun h150 => ?_)
                refine V.iload (pc := 153) 1 dX8_hang_153 rfl ?_
                refine V.goto (pc := 155) 160 dX8_hang_155 (by decide) ?_
                refine V.istore (pc := 160) (i := 4) dX8_hang_160 (by decide) (ls' := [(4, vI (X.1 p (nth (so σ (he σ p)) v (k + 1)) + 1)), (5, vL (X.2 p (nth (so σ (he σ p)) v (k + 1)))), (8, vI (X.1 p (nth (so σ (he σ p)) v (k + 1)) + 1)), (0, vR 77), (1, vI ((p : Nat) : Int)), (2, vI (((srcF σ H p) : Nat) : Int)), (3, vI ((v : Nat) : Int)), (7, vI ((k : Nat) : Int))]) rfl ?_
                refine V.iinc (pc := 162) (r := ((k + 1 : Nat) : Int)) 7 dX8_hang_162 rfl (w32_of (by omega) (by omega) (by omega)) (by decide) (ls' := [(7, vI ((k + 1 : Nat) : Int)), (4, vI (X.1 p (nth (so σ (he σ p)) v (k + 1)) + 1)), (5, vL (X.2 p (nth (so σ (he σ p)) v (k + 1)))), (8, vI (X.1 p (nth (so σ (he σ p)) v (k + 1)) + 1)), (0, vR 77), (1, vI ((p : Nat) : Int)), (2, vI (((srcF σ H p) : Nat) : Int)), (3, vI ((v : Nat) : Int))]) rfl ?_
                refine V.goto (pc := 165) 58 dX8_hang_165 (by decide) ?_
                refine V.locs [4, 5, 6, 7, 1, 2, 0] (ls' := [(0, vR 77), (1, vI ((p : Nat) : Int)), (2, vI (((srcF σ H p) : Nat) : Int)), (3, vI ((v : Nat) : Int)), (4, vI (X.1 p (nth (so σ (he σ p)) v (k + 1)) + 1)), (5, vL (X.2 p (nth (so σ (he σ p)) v (k + 1)))), (7, vI ((k + 1 : Nat) : Int))]) rfl ?_
                exact ih58 (k + 1) (X.1 p (nth (so σ (he σ p)) v (k + 1)) + 1) (X.2 p (nth (so σ (he σ p)) v (k + 1))) (by omega) (by rw [wgs_lt (by omega)]) (by rw [wgs_lt (by omega)]) (by omega)
        refine V.locs [3, 4, 5, 6, 2, 1, 0] (ls' := [(0, vR 77), (1, vI ((p : Nat) : Int)), (2, vI (((srcF σ H p) : Nat) : Int)), (3, vI ((v : Nat) : Int)), (4, vI (X.1 p v)), (5, vL (X.2 p v)), (7, vI 0)]) rfl ?_
        exact lp58 _ 0 (X.1 p v) (X.2 p v) (by omega) (rfl) (rfl) (Nat.lt_succ_self _)
  refine V.locs [2, 3, 1, 0] (ls' := [(0, vR 77), (1, vI ((p : Nat) : Int)), (2, vI ((srcF σ H p : Nat) : Int)), (3, vI 0)]) rfl ?_
  exact lp8 _ 0 (hi 77) (hi 78) (hi 79) (hi 88) (hl 89) (by omega) (fun _ _ _ => rfl) (RW_0 hX) (Nat.lt_succ_self _)

set_option maxRecDepth 100000 in
theorem c_X8_findCosts (hi hl : HI) (σ : SG) (hC : MR hi σ) (L : Int) (Q : QT) (hq : ∀ f77 f86 f87 f78 f79 f88 f89 : Nat → Int, (∀ j, j ≠ 1 → j ≠ 3 → j ≠ 15 → f77 j = hi 77 j) → RW f88 f89 (rRec σ L (nn σ)) → Q none KW (upR (upR (upR (upR (upR (upR hi 77 f77) 86 f86) 87 f87) 78 f78) 79 f79) 88 f88) (upR hl 89 f89)) : Con eX8_findCosts [vR 77, vI L] KW hi hl Q := by
  refine Con.ofV (by decide +kernel) (Nat.le_of_ble_eq_true rfl) ?_
  show V eX8_findCosts none KW 0 [(0, vR 77), (1, vI L)] [] hi hl 0 0 Q
  refine V.hieq (hi' := (upR (upR (upR (upR (upR (upR hi 77 (hi 77)) 86 (hi 86)) 87 (hi 87)) 78 (hi 78)) 79 (hi 79)) 88 (hi 88))) (by rw [upR_id, upR_id, upR_id, upR_id, upR_id, upR_id]) ?_
  refine V.hleq (hl' := (upR hl 89 (hl 89))) (by rw [upR_id]) ?_
  have hwf := hC.1
  have hn16 := hwf.2.2.1
  have hbg := hwf.2.2.2.2.1
  refine V.aload_n (pc := 0) 0 dX8_findCosts_0 rfl ?_
  refine V.aload_n (pc := 1) 0 dX8_findCosts_1 rfl ?_
  refine V.gi (pc := 2) 8 9 ((bg σ : Nat) : Int) flX8_147 dX8_findCosts_2 (kS_77) (by decide) (by decide) rfl (hC.2.2.2.2.2.1) ?_
  refine V.bipush (pc := 5) (z := (-6)) dX8_findCosts_5 (by decide +kernel) ⟨by decide, by decide⟩ ?_
  refine V.iconst (pc := 7) (z := 0) dX8_findCosts_7 rfl ⟨by decide, by decide⟩ ?_
  refine V.callV (pc := 8) (e1 := eX8_goDay) (o := 77) (c := 8) 3 [vI ((bg σ : Nat) : Int), vI (-6), vI 0] [] mfX8_goDay slX8_goDay mlX8_164 dX8_findCosts_8 (kS_77) (by decide) rfl rfl rfl (Nat.le_of_ble_eq_true rfl) ⟨by decide, by decide, by decide, by decide⟩ ?_
  refine c_X8_goDay (upR (upR (upR (upR (upR (upR hi 77 (hi 77)) 86 (hi 86)) 87 (hi 87)) 78 (hi 78)) 79 (hi 79)) 88 (hi 88)) (upR hl 89 (hl 89)) σ hC (bg σ) (by omega) (-6) 0 _ (fun f77 f86 f87 f78 f79 hgd hgW => ?_)
  refine V.qV (pc := 8) rfl rfl ?_
  refine V.hieq (hi' := (upR (upR (upR (upR (upR (upR hi 77 f77) 86 f86) 87 f87) 78 f78) 79 f79) 88 (hi 88))) ((upR_c ((upR_c ((upR_c ((upR_c (rs (by decide) (rs (by decide) (rs (by decide) (rs (by decide) (rs (by decide) r1)))))).trans (rs (by decide) (rs (by decide) (rs (by decide) (rs (by decide) r1)))))).trans (rs (by decide) (rs (by decide) (rs (by decide) r1))))).trans (rs (by decide) (rs (by decide) r1)))).trans (rs (by decide) r1)) ?_
  have hgd : ∀ j, j ≠ 1 → j ≠ 3 → j ≠ 15 → f77 j = hi 77 j := hgd
  have hgW : WM f77 f86 f87 (wD σ) (nn σ) := hgW
  refine V.iconst (pc := 11) (z := 1) dX8_findCosts_11 rfl ⟨by decide, by decide⟩ ?_
  refine V.istore_n (pc := 12) (i := 2) dX8_findCosts_12 rfl (by decide) (ls' := [(2, vI 1), (0, vR 77), (1, vI L)]) rfl ?_
  refine V.iconst (pc := 13) (z := 0) dX8_findCosts_13 rfl ⟨by decide, by decide⟩ ?_
  refine V.istore_n (pc := 14) (i := 3) dX8_findCosts_14 rfl (by decide) (ls' := [(3, vI 0), (2, vI 1), (0, vR 77), (1, vI L)]) rfl ?_
  have lp15 : ∀ (fu15 : Nat) (b : Nat) (z : Int), (b ≤ 6) → (z = b2i (canG σ L (wD σ).1 b)) → 6 - b < fu15 → V eX8_findCosts none KW 15 [(0, vR 77), (1, vI L), (2, vI z), (3, vI ((b : Nat) : Int))] [] (upR (upR (upR (upR (upR (upR hi 77 f77) 86 f86) 87 f87) 78 f78) 79 f79) 88 (hi 88)) (upR hl 89 (hl 89)) 0 0 Q := by
    intro fu15
    induction fu15 with
    | zero => intro b z hb6 hz hm15; exact absurd hm15 (Nat.not_lt_zero _)
    | succ fu15 ih15 =>
      intro b z hb6 hz hm15
      refine V.iload_n (pc := 15) 3 dX8_findCosts_15 rfl ?_
      refine V.bipush (pc := 16) (z := 6) dX8_findCosts_16 (by decide +kernel) ⟨by decide, by decide⟩ ?_
      refine V.icmp_ge (pc := 18) 60 dX8_findCosts_18 (by decide) (fun h18 => ?_) (fun h18 => ?_)
      · skip
        have hb66 : b = 6 := by omega
        subst hb66
        have hz : z = b2i (canF σ L) := hz
        refine V.iconst (pc := 60) (z := 0) dX8_findCosts_60 rfl ⟨by decide, by decide⟩ ?_
        refine V.istore_n (pc := 61) (i := 3) dX8_findCosts_61 rfl (by decide) (ls' := [(3, vI 0), (0, vR 77), (1, vI L), (2, vI z)]) rfl ?_
        have lp62 : ∀ (fu62 : Nat) (p : Nat) (f88 : Nat → Int) (f89 : Nat → Int), (p ≤ 17) → (RIp f88 f89 σ L p 0) → 17 - p < fu62 → V eX8_findCosts none KW 62 [(0, vR 77), (1, vI L), (2, vI z), (3, vI ((p : Nat) : Int))] [] (upR (upR (upR (upR (upR (upR hi 77 f77) 86 f86) 87 f87) 78 f78) 79 f79) 88 f88) (upR hl 89 f89) 0 0 Q := by
          intro fu62
          induction fu62 with
          | zero => intro p f88 f89 hp hR hm62; exact absurd hm62 (Nat.not_lt_zero _)
          | succ fu62 ih62 =>
            intro p f88 f89 hp hR hm62
            refine V.iload_n (pc := 62) 3 dX8_findCosts_62 rfl ?_
            refine V.bipush (pc := 63) (z := 16) dX8_findCosts_63 (by decide +kernel) ⟨by decide, by decide⟩ ?_
            refine V.icmp_gt (pc := 65) 219 dX8_findCosts_65 (by decide) (fun h65 => ?_) (fun h65 => ?_)
            · skip
              refine V.aload_n (pc := 219) 0 dX8_findCosts_219 rfl ?_
              refine V.gi (pc := 220) 8 8 ((nn σ : Nat) : Int) flX8_138 dX8_findCosts_220 (kS_77) (by decide) (by decide) rfl ((hgd 8 (by decide) (by decide) (by decide)).trans hC.2.2.2.1) ?_
              refine V.iconst (pc := 223) (z := 1) dX8_findCosts_223 rfl ⟨by decide, by decide⟩ ?_
              refine V.isub (pc := 224) ((((nn σ : Nat) : Int) - 1)) dX8_findCosts_224 (w32_of (by omega) (by omega) (by omega)) ?_
              refine V.istore_n (pc := 225) (i := 3) dX8_findCosts_225 rfl (by decide) (ls' := [(3, vI (((nn σ : Nat) : Int) - 1)), (0, vR 77), (1, vI L), (2, vI z)]) rfl ?_
              have lp226 : ∀ (fu226 : Nat) (k : Nat) (e77 : Nat → Int) (e78 : Nat → Int) (e79 : Nat → Int) (e88 : Nat → Int) (e89 : Nat → Int), (k ≤ nn σ) → (∀ j, j ≠ 1 → j ≠ 3 → j ≠ 15 → e77 j = hi 77 j) → (RW e88 e89 (rRec σ L (nn σ - k))) → k < fu226 → V eX8_findCosts none KW 226 [(0, vR 77), (1, vI L), (3, vI ((k : Int) - 1))] [] (upR (upR (upR (upR (upR (upR hi 77 e77) 86 f86) 87 f87) 78 e78) 79 e79) 88 e88) (upR hl 89 e89) 0 0 Q := by
                intro fu226
                induction fu226 with
                | zero => intro k e77 e78 e79 e88 e89 hk hf7 hX hm226; exact absurd hm226 (Nat.not_lt_zero _)
                | succ fu226 ih226 =>
                  intro k e77 e78 e79 e88 e89 hk hf7 hX hm226
                  refine V.iload_n (pc := 226) 2 dX8_findCosts_226 rfl ?_
                  refine V.if_lt (pc := 227) 250 dX8_findCosts_227 (by decide) (fun h227 => ?_) (fun h227 => ?_)
                  · have hk0 : k = 0 := by omega
                    subst hk0
                    rw [Nat.sub_zero] at hX
                    refine V.vret (pc := 250) dX8_findCosts_250 rfl ?_
                    exact hq _ _ _ _ _ _ _ hf7 hX
                  · have hk1 : 1 ≤ k := by omega
                    refine V.aload_n (pc := 230) 0 dX8_findCosts_230 rfl ?_
                    refine V.gr (pc := 231) 8 16 87 flX8_37 dX8_findCosts_231 (kS_77) (by decide) (by decide) rfl (kR_77_16) ?_
                    refine V.iload_n (pc := 234) 2 dX8_findCosts_234 rfl ?_
                    refine V.za (pc := 235) (len := 16) (k - 1) (b2i (heardF σ (k - 1))) dX8_findCosts_235 (kS_87) (by omega) (by omega) (hgW.2.2.1 _ (by omega)) ?_
                    refine V.if_eq (pc := 236) 244 dX8_findCosts_236 (by decide) (fun h236 => ?_) (fun h236 => ?_)
                    · have hHk := b2i_F h236
                      refine V.iinc (pc := 244) (r := (((k - 1 : Nat) : Int) - 1)) 2 dX8_findCosts_244 rfl (w32_of (by omega) (by omega) (by omega)) (by decide) (ls' := [(3, vI (((k - 1 : Nat) : Int) - 1)), (0, vR 77), (1, vI L)]) rfl ?_
                      refine V.goto (pc := 247) 226 dX8_findCosts_247 (by decide) ?_
                      refine V.locs [1, 2, 0] (ls' := [(0, vR 77), (1, vI L), (3, vI (((k - 1 : Nat) : Int) - 1))]) rfl ?_
                      exact ih226 (k - 1) e77 e78 e79 e88 e89 (by omega) (hf7) (by rw [rRec_k hk1 hk, hHk]; exact hX) (by omega)
                    · have hHk := b2i_T h236
                      refine V.aload_n (pc := 239) 0 dX8_findCosts_239 rfl ?_
                      refine V.iload_n (pc := 240) 2 dX8_findCosts_240 rfl ?_
                      refine V.top (v' := vI (((k - 1) : Nat) : Int)) (by rw [show ((k : Int) - 1) = ((k - 1 : Nat) : Int) by omega]) ?_
                      refine V.callV (pc := 241) (e1 := eX8_hang) (o := 77) (c := 8) 1 [vI (((k - 1) : Nat) : Int)] [] mfX8_hang slX8_hang mlX8_181 dX8_findCosts_241 (kS_77) (by decide) rfl rfl rfl (Nat.le_of_ble_eq_true rfl) ⟨by decide, by decide, by decide, by decide⟩ ?_
                      refine c_X8_hang (upR (upR (upR (upR (upR (upR hi 77 e77) 86 f86) 87 f87) 78 e78) 79 e79) 88 e88) (upR hl 89 e89) σ (MR_up hC ((hf7 8 (by decide) (by decide) (by decide))) ((hf7 9 (by decide) (by decide) (by decide))) ((hf7 11 (by decide) (by decide) (by decide))) rfl rfl rfl rfl rfl) (heardF σ) (fun j hj => hgW.2.2.1 j hj) (k - 1) (by omega) (rRec σ L (nn σ - k)) hX (BdW_r hwf _ (by omega)) _ (fun fh77 fh78 fh79 fh88 fh89 hh1 hh2 => ?_)
                      refine V.qV (pc := 241) rfl rfl ?_
                      refine V.hieq (hi' := (upR (upR (upR (upR (upR (upR hi 77 fh77) 86 f86) 87 f87) 78 fh78) 79 fh79) 88 fh88)) ((upR_c ((upR_c ((upR_c (rs (by decide) (rs (by decide) (rs (by decide) (rs (by decide) (rs (by decide) r1)))))).trans (rs (by decide) (rs (by decide) r1)))).trans (rs (by decide) r1))).trans r1) ?_
                      refine V.hleq (hl' := (upR hl 89 fh89)) r1 ?_
                      refine V.iinc (pc := 244) (r := (((k - 1 : Nat) : Int) - 1)) 2 dX8_findCosts_244 rfl (w32_of (by omega) (by omega) (by omega)) (by decide) (ls' := [(3, vI (((k - 1 : Nat) : Int) - 1)), (0, vR 77), (1, vI L)]) rfl ?_
                      refine V.goto (pc := 247) 226 dX8_findCosts_247 (by decide) ?_
                      refine V.locs [1, 2, 0] (ls' := [(0, vR 77), (1, vI L), (3, vI (((k - 1 : Nat) : Int) - 1))]) rfl ?_
                      exact ih226 (k - 1) fh77 fh78 fh79 fh88 fh89 (by omega) (fun j h1 h3 h15 => (hh1 j h1 h3).trans (hf7 j h1 h3 h15)) (by rw [rRec_k hk1 hk, if_pos hHk]; exact hh2) (by omega)
              refine V.locs [1, 2, 0] (ls' := [(0, vR 77), (1, vI L), (3, vI (((nn σ : Nat) : Int) - 1))]) rfl ?_
              exact lp226 _ (nn σ) f77 f78 f79 f88 f89 (by omega) (hgd) (by rw [Nat.sub_self]; exact fun q hq u hu => hR q hq u hu (by omega)) (Nat.lt_succ_self _)
            · skip
              refine V.iconst (pc := 68) (z := 0) dX8_findCosts_68 rfl ⟨by decide, by decide⟩ ?_
              refine V.istore (pc := 69) (i := 4) dX8_findCosts_69 (by decide) (ls' := [(4, vI 0), (0, vR 77), (1, vI L), (2, vI z), (3, vI ((p : Nat) : Int))]) rfl ?_
              have lp71 : ∀ (fu71 : Nat) (v : Nat) (g88 : Nat → Int) (g89 : Nat → Int), (v ≤ 364) → (RIp g88 g89 σ L p v) → 364 - v < fu71 → V eX8_findCosts none KW 71 [(0, vR 77), (1, vI L), (2, vI z), (3, vI ((p : Nat) : Int)), (4, vI ((v : Nat) : Int))] [] (upR (upR (upR (upR (upR (upR hi 77 f77) 86 f86) 87 f87) 78 f78) 79 f79) 88 g88) (upR hl 89 g89) 0 0 Q := by
                intro fu71
                induction fu71 with
                | zero => intro v g88 g89 hv hR2 hm71; exact absurd hm71 (Nat.not_lt_zero _)
                | succ fu71 ih71 =>
                  intro v g88 g89 hv hR2 hm71
                  refine V.iload (pc := 71) 4 dX8_findCosts_71 rfl ?_
                  refine V.sipush (pc := 73) (z := 364) dX8_findCosts_73 (by decide +kernel) ⟨by decide, by decide⟩ ?_
                  refine V.icmp_ge (pc := 76) 213 dX8_findCosts_76 (by decide) (fun h76 => ?_) (fun h76 => ?_)
                  · skip
                    refine V.iinc (pc := 213) (r := ((p + 1 : Nat) : Int)) 3 dX8_findCosts_213 rfl (w32_of (by omega) (by omega) (by omega)) (by decide) (ls' := [(3, vI ((p + 1 : Nat) : Int)), (0, vR 77), (1, vI L), (2, vI z), (4, vI ((v : Nat) : Int))]) rfl ?_
                    refine V.goto (pc := 216) 62 dX8_findCosts_216 (by decide) ?_
                    refine V.locs [1, 2, 3, 0] (ls' := [(0, vR 77), (1, vI L), (2, vI z), (3, vI ((p + 1 : Nat) : Int))]) rfl ?_
                    exact ih62 (p + 1) g88 g89 (by omega) (fun q hq u hu hd => hR2 q hq u hu (by omega)) (by omega)
                  · skip
                    refine V.iload_n (pc := 79) 3 dX8_findCosts_79 rfl ?_
                    refine V.bipush (pc := 80) (z := 16) dX8_findCosts_80 (by decide +kernel) ⟨by decide, by decide⟩ ?_
                    refine V.icmp_lt (pc := 82) 89 dX8_findCosts_82 (by decide) (fun h82 => ?_) (fun h82 => ?_)
                    · have hb1 : (decide (p < 16) || canF σ L) = true := by rw [decide_eq_true (show p < 16 by omega)]; rfl
                      refine V.iconst (pc := 89) (z := 1) dX8_findCosts_89 rfl ⟨by decide, by decide⟩ ?_
                      refine V.goto (pc := 90) 94 dX8_findCosts_90 (by decide) ?_
                      refine V.istore (pc := 94) (i := 5) dX8_findCosts_94 (by decide) (ls' := [(5, vI 1), (0, vR 77), (1, vI L), (2, vI z), (3, vI ((p : Nat) : Int)), (4, vI ((v : Nat) : Int))]) rfl ?_
                      refine V.iload_n (pc := 96) 4 dX8_findCosts_96 rfl ?_
                      refine V.aload_n (pc := 97) 1 dX8_findCosts_97 rfl ?_
                      refine V.gi (pc := 98) 8 8 ((nn σ : Nat) : Int) flX8_138 dX8_findCosts_98 (kS_77) (by decide) (by decide) rfl ((hgd 8 (by decide) (by decide) (by decide)).trans hC.2.2.2.1) ?_
                      refine V.icmp_ge (pc := 101) 163 dX8_findCosts_101 (by decide) (fun h101 => ?_) (fun h101 => ?_)
                      · have hnl : ¬ (p < nn σ ∧ heardF σ p = true ∧ lstF σ (heardF σ) p = true) := fun q => by omega
                        have hfit : fitB σ (heardF σ) L (canF σ L) p v = true := by unfold fitB; rw [if_neg hnl]; exact hb1
                        refine V.aload_n (pc := 163) 1 dX8_findCosts_163 rfl ?_
                        refine V.gr (pc := 164) 8 17 88 flX8_41 dX8_findCosts_164 (kS_77) (by decide) (by decide) rfl (kR_77_17) ?_
                        refine V.iload_n (pc := 167) 4 dX8_findCosts_167 rfl ?_
                        refine V.iload (pc := 168) 5 dX8_findCosts_168 rfl ?_
                        refine V.callS (pc := 170) (e1 := eX8_at) 2 [vI ((p : Nat) : Int), vI ((v : Nat) : Int)] [vR 88] mfX8_at slX8_at mlX8_175 dX8_findCosts_170 rfl rfl (Nat.le_of_ble_eq_true rfl) ⟨by decide, by decide, by decide, by decide⟩ ?_
                        refine c_X8_at KW (upR (upR (upR (upR (upR (upR hi 77 f77) 86 f86) 87 f87) 78 f78) 79 f79) 88 g88) (upR hl 89 g89) p v (by omega) (by omega) _ ?_
                        refine V.qI (pc := 170) rfl rfl ?_
                        refine V.iload (pc := 173) 0 dX8_findCosts_173 rfl ?_
                        refine V.if_eq (pc := 175) 182 dX8_findCosts_175 (by decide) (fun hc => by exact absurd hc (by decide)) (fun h175 => ?_)
                        refine V.iconst (pc := 178) (z := 0) dX8_findCosts_178 rfl ⟨by decide, by decide⟩ ?_
                        refine V.goto (pc := 179) 185 dX8_findCosts_179 (by decide) ?_
                        refine V.is (pc := 185) (len := 6188) (hi' := (upR (upR (upR (upR (upR (upR hi 77 f77) 86 f86) 87 f87) 78 f78) 79 f79) 88 (updF g88 (364 * p + v) 0))) (364 * p + v) dX8_findCosts_185 (kS_88) (rfl) (by omega) u1 ?_
                        refine V.aload_n (pc := 186) 1 dX8_findCosts_186 rfl ?_
                        refine V.gr (pc := 187) 8 18 89 flX8_44 dX8_findCosts_187 (kS_77) (by decide) (by decide) rfl (kR_77_18) ?_
                        refine V.iload_n (pc := 190) 4 dX8_findCosts_190 rfl ?_
                        refine V.iload (pc := 191) 5 dX8_findCosts_191 rfl ?_
                        refine V.callS (pc := 193) (e1 := eX8_at) 2 [vI ((p : Nat) : Int), vI ((v : Nat) : Int)] [vR 89] mfX8_at slX8_at mlX8_175 dX8_findCosts_193 rfl rfl (Nat.le_of_ble_eq_true rfl) ⟨by decide, by decide, by decide, by decide⟩ ?_
                        refine c_X8_at KW (upR (upR (upR (upR (upR (upR hi 77 f77) 86 f86) 87 f87) 78 f78) 79 f79) 88 (updF g88 (364 * p + v) 0)) (upR hl 89 g89) p v (by omega) (by omega) _ ?_
                        refine V.qI (pc := 193) rfl rfl ?_
                        refine V.iload (pc := 196) 0 dX8_findCosts_196 rfl ?_
                        refine V.if_eq (pc := 198) 205 dX8_findCosts_198 (by decide) (fun hc => by exact absurd hc (by decide)) (fun h198 => ?_)
                        refine V.lconst (pc := 201) (z := 1) dX8_findCosts_201 (by decide +kernel) ⟨by decide, by decide⟩ ?_
                        refine V.goto (pc := 202) 206 dX8_findCosts_202 (by decide) ?_
                        refine V.js (pc := 206) (len := 6188) (hl' := (upR hl 89 (updF g89 (364 * p + v) 1))) (364 * p + v) dX8_findCosts_206 (kS_89) (rfl) (by omega) u1 ?_
                        refine V.iinc (pc := 207) (r := ((v + 1 : Nat) : Int)) 5 dX8_findCosts_207 rfl (w32_of (by omega) (by omega) (by omega)) (by decide) (ls' := [(4, vI ((v + 1 : Nat) : Int)), (5, vI 1), (0, vR 77), (1, vI L), (2, vI z), (3, vI ((p : Nat) : Int))]) rfl ?_
                        refine V.goto (pc := 210) 71 dX8_findCosts_210 (by decide) ?_
                        refine V.locs [2, 3, 4, 5, 0] (ls' := [(0, vR 77), (1, vI L), (2, vI z), (3, vI ((p : Nat) : Int)), (4, vI ((v + 1 : Nat) : Int))]) rfl ?_
                        exact ih71 (v + 1) (updF g88 (364 * p + v) 0) (updF g89 (364 * p + v) 1) (by omega) (RIp_t hR2 (by omega) hfit) (by omega)
                      · skip
                        refine V.aload_n (pc := 104) 1 dX8_findCosts_104 rfl ?_
                        refine V.gr (pc := 105) 8 16 87 flX8_37 dX8_findCosts_105 (kS_77) (by decide) (by decide) rfl (kR_77_16) ?_
                        refine V.iload_n (pc := 108) 4 dX8_findCosts_108 rfl ?_
                        refine V.za (pc := 109) (len := 16) p (b2i (heardF σ p)) dX8_findCosts_109 (kS_87) (rfl) (by omega) (hgW.2.2.1 p (by omega)) ?_
                        refine V.if_eq (pc := 110) 163 dX8_findCosts_110 (by decide) (fun h110 => ?_) (fun h110 => ?_)
                        · have hnl : ¬ (p < nn σ ∧ heardF σ p = true ∧ lstF σ (heardF σ) p = true) := fun q => by rw [q.2.1] at h110; exact absurd h110 (by decide)
                          have hfit : fitB σ (heardF σ) L (canF σ L) p v = true := by unfold fitB; rw [if_neg hnl]; exact hb1
                          refine V.aload_n (pc := 163) 1 dX8_findCosts_163 rfl ?_
                          refine V.gr (pc := 164) 8 17 88 flX8_41 dX8_findCosts_164 (kS_77) (by decide) (by decide) rfl (kR_77_17) ?_
                          refine V.iload_n (pc := 167) 4 dX8_findCosts_167 rfl ?_
                          refine V.iload (pc := 168) 5 dX8_findCosts_168 rfl ?_
                          refine V.callS (pc := 170) (e1 := eX8_at) 2 [vI ((p : Nat) : Int), vI ((v : Nat) : Int)] [vR 88] mfX8_at slX8_at mlX8_175 dX8_findCosts_170 rfl rfl (Nat.le_of_ble_eq_true rfl) ⟨by decide, by decide, by decide, by decide⟩ ?_
                          refine c_X8_at KW (upR (upR (upR (upR (upR (upR hi 77 f77) 86 f86) 87 f87) 78 f78) 79 f79) 88 g88) (upR hl 89 g89) p v (by omega) (by omega) _ ?_
                          refine V.qI (pc := 170) rfl rfl ?_
                          refine V.iload (pc := 173) 0 dX8_findCosts_173 rfl ?_
                          refine V.if_eq (pc := 175) 182 dX8_findCosts_175 (by decide) (fun hc => by exact absurd hc (by decide)) (fun h175 => ?_)
                          refine V.iconst (pc := 178) (z := 0) dX8_findCosts_178 rfl ⟨by decide, by decide⟩ ?_
                          refine V.goto (pc := 179) 185 dX8_findCosts_179 (by decide) ?_
                          refine V.is (pc := 185) (len := 6188) (hi' := (upR (upR (upR (upR (upR (upR hi 77 f77) 86 f86) 87 f87) 78 f78) 79 f79) 88 (updF g88 (364 * p + v) 0))) (364 * p + v) dX8_findCosts_185 (kS_88) (rfl) (by omega) u1 ?_
                          refine V.aload_n (pc := 186) 1 dX8_findCosts_186 rfl ?_
                          refine V.gr (pc := 187) 8 18 89 flX8_44 dX8_findCosts_187 (kS_77) (by decide) (by decide) rfl (kR_77_18) ?_
                          refine V.iload_n (pc := 190) 4 dX8_findCosts_190 rfl ?_
                          refine V.iload (pc := 191) 5 dX8_findCosts_191 rfl ?_
                          refine V.callS (pc := 193) (e1 := eX8_at) 2 [vI ((p : Nat) : Int), vI ((v : Nat) : Int)] [vR 89] mfX8_at slX8_at mlX8_175 dX8_findCosts_193 rfl rfl (Nat.le_of_ble_eq_true rfl) ⟨by decide, by decide, by decide, by decide⟩ ?_
                          refine c_X8_at KW (upR (upR (upR (upR (upR (upR hi 77 f77) 86 f86) 87 f87) 78 f78) 79 f79) 88 (updF g88 (364 * p + v) 0)) (upR hl 89 g89) p v (by omega) (by omega) _ ?_
                          refine V.qI (pc := 193) rfl rfl ?_
                          refine V.iload (pc := 196) 0 dX8_findCosts_196 rfl ?_
                          refine V.if_eq (pc := 198) 205 dX8_findCosts_198 (by decide) (fun hc => by exact absurd hc (by decide)) (fun h198 => ?_)
                          refine V.lconst (pc := 201) (z := 1) dX8_findCosts_201 (by decide +kernel) ⟨by decide, by decide⟩ ?_
                          refine V.goto (pc := 202) 206 dX8_findCosts_202 (by decide) ?_
                          refine V.js (pc := 206) (len := 6188) (hl' := (upR hl 89 (updF g89 (364 * p + v) 1))) (364 * p + v) dX8_findCosts_206 (kS_89) (rfl) (by omega) u1 ?_
                          refine V.iinc (pc := 207) (r := ((v + 1 : Nat) : Int)) 5 dX8_findCosts_207 rfl (w32_of (by omega) (by omega) (by omega)) (by decide) (ls' := [(4, vI ((v + 1 : Nat) : Int)), (5, vI 1), (0, vR 77), (1, vI L), (2, vI z), (3, vI ((p : Nat) : Int))]) rfl ?_
                          refine V.goto (pc := 210) 71 dX8_findCosts_210 (by decide) ?_
                          refine V.locs [2, 3, 4, 5, 0] (ls' := [(0, vR 77), (1, vI L), (2, vI z), (3, vI ((p : Nat) : Int)), (4, vI ((v + 1 : Nat) : Int))]) rfl ?_
                          exact ih71 (v + 1) (updF g88 (364 * p + v) 0) (updF g89 (364 * p + v) 1) (by omega) (RIp_t hR2 (by omega) hfit) (by omega)
                        · skip
                          refine V.aload_n (pc := 113) 1 dX8_findCosts_113 rfl ?_
                          refine V.iload_n (pc := 114) 4 dX8_findCosts_114 rfl ?_
                          refine V.callV (pc := 115) (e1 := eX8_isLast) (o := 77) (c := 8) 1 [vI ((p : Nat) : Int)] [] mfX8_isLast slX8_isLast mlX8_178 dX8_findCosts_115 (kS_77) (by decide) rfl rfl rfl (Nat.le_of_ble_eq_true rfl) ⟨by decide, by decide, by decide, by decide⟩ ?_
                          refine c_X8_isLast (upR (upR (upR (upR (upR (upR hi 77 f77) 86 f86) 87 f87) 78 f78) 79 f79) 88 g88) (upR hl 89 g89) σ (MR_up hC ((hgd 8 (by decide) (by decide) (by decide))) ((hgd 9 (by decide) (by decide) (by decide))) ((hgd 11 (by decide) (by decide) (by decide))) rfl rfl rfl rfl rfl) (heardF σ) (fun j hj => hgW.2.2.1 j hj) p (by omega) _ ?_
                          refine V.qI (pc := 115) rfl rfl ?_
                          refine V.if_eq (pc := 118) 163 dX8_findCosts_118 (by decide) (fun h118 => ?_) (fun h118 => ?_)
                          · have hnl : ¬ (p < nn σ ∧ heardF σ p = true ∧ lstF σ (heardF σ) p = true) := fun q => by rw [q.2.2] at h118; exact absurd h118 (by decide)
                            have hfit : fitB σ (heardF σ) L (canF σ L) p v = true := by unfold fitB; rw [if_neg hnl]; exact hb1
                            refine V.aload_n (pc := 163) 1 dX8_findCosts_163 rfl ?_
                            refine V.gr (pc := 164) 8 17 88 flX8_41 dX8_findCosts_164 (kS_77) (by decide) (by decide) rfl (kR_77_17) ?_
                            refine V.iload_n (pc := 167) 4 dX8_findCosts_167 rfl ?_
                            refine V.iload (pc := 168) 5 dX8_findCosts_168 rfl ?_
                            refine V.callS (pc := 170) (e1 := eX8_at) 2 [vI ((p : Nat) : Int), vI ((v : Nat) : Int)] [vR 88] mfX8_at slX8_at mlX8_175 dX8_findCosts_170 rfl rfl (Nat.le_of_ble_eq_true rfl) ⟨by decide, by decide, by decide, by decide⟩ ?_
                            refine c_X8_at KW (upR (upR (upR (upR (upR (upR hi 77 f77) 86 f86) 87 f87) 78 f78) 79 f79) 88 g88) (upR hl 89 g89) p v (by omega) (by omega) _ ?_
                            refine V.qI (pc := 170) rfl rfl ?_
                            refine V.iload (pc := 173) 0 dX8_findCosts_173 rfl ?_
                            refine V.if_eq (pc := 175) 182 dX8_findCosts_175 (by decide) (fun hc => by exact absurd hc (by decide)) (fun h175 => ?_)
                            refine V.iconst (pc := 178) (z := 0) dX8_findCosts_178 rfl ⟨by decide, by decide⟩ ?_
                            refine V.goto (pc := 179) 185 dX8_findCosts_179 (by decide) ?_
                            refine V.is (pc := 185) (len := 6188) (hi' := (upR (upR (upR (upR (upR (upR hi 77 f77) 86 f86) 87 f87) 78 f78) 79 f79) 88 (updF g88 (364 * p + v) 0))) (364 * p + v) dX8_findCosts_185 (kS_88) (rfl) (by omega) u1 ?_
                            refine V.aload_n (pc := 186) 1 dX8_findCosts_186 rfl ?_
                            refine V.gr (pc := 187) 8 18 89 flX8_44 dX8_findCosts_187 (kS_77) (by decide) (by decide) rfl (kR_77_18) ?_
                            refine V.iload_n (pc := 190) 4 dX8_findCosts_190 rfl ?_
                            refine V.iload (pc := 191) 5 dX8_findCosts_191 rfl ?_
                            refine V.callS (pc := 193) (e1 := eX8_at) 2 [vI ((p : Nat) : Int), vI ((v : Nat) : Int)] [vR 89] mfX8_at slX8_at mlX8_175 dX8_findCosts_193 rfl rfl (Nat.le_of_ble_eq_true rfl) ⟨by decide, by decide, by decide, by decide⟩ ?_
                            refine c_X8_at KW (upR (upR (upR (upR (upR (upR hi 77 f77) 86 f86) 87 f87) 78 f78) 79 f79) 88 (updF g88 (364 * p + v) 0)) (upR hl 89 g89) p v (by omega) (by omega) _ ?_
                            refine V.qI (pc := 193) rfl rfl ?_
                            refine V.iload (pc := 196) 0 dX8_findCosts_196 rfl ?_
                            refine V.if_eq (pc := 198) 205 dX8_findCosts_198 (by decide) (fun hc => by exact absurd hc (by decide)) (fun h198 => ?_)
                            refine V.lconst (pc := 201) (z := 1) dX8_findCosts_201 (by decide +kernel) ⟨by decide, by decide⟩ ?_
                            refine V.goto (pc := 202) 206 dX8_findCosts_202 (by decide) ?_
                            refine V.js (pc := 206) (len := 6188) (hl' := (upR hl 89 (updF g89 (364 * p + v) 1))) (364 * p + v) dX8_findCosts_206 (kS_89) (rfl) (by omega) u1 ?_
                            refine V.iinc (pc := 207) (r := ((v + 1 : Nat) : Int)) 5 dX8_findCosts_207 rfl (w32_of (by omega) (by omega) (by omega)) (by decide) (ls' := [(4, vI ((v + 1 : Nat) : Int)), (5, vI 1), (0, vR 77), (1, vI L), (2, vI z), (3, vI ((p : Nat) : Int))]) rfl ?_
                            refine V.goto (pc := 210) 71 dX8_findCosts_210 (by decide) ?_
                            refine V.locs [2, 3, 4, 5, 0] (ls' := [(0, vR 77), (1, vI L), (2, vI z), (3, vI ((p : Nat) : Int)), (4, vI ((v + 1 : Nat) : Int))]) rfl ?_
                            exact ih71 (v + 1) (updF g88 (364 * p + v) 0) (updF g89 (364 * p + v) 1) (by omega) (RIp_t hR2 (by omega) hfit) (by omega)
                          · have hyl : (p < nn σ ∧ heardF σ p = true ∧ lstF σ (heardF σ) p = true) := ⟨by omega, b2i_T h110, b2i_T h118⟩
                            have hpp := hwf.2.2.2.1 p (by omega)
                            have hCp := hC.2.2.2.2.1 p (by omega)
                            refine V.aload_n (pc := 121) 1 dX8_findCosts_121 rfl ?_
                            refine V.gr (pc := 122) 8 10 84 flX8_28 dX8_findCosts_122 (kS_77) (by decide) (by decide) rfl (kR_77_10) ?_
                            refine V.aload_n (pc := 125) 1 dX8_findCosts_125 rfl ?_
                            refine V.gr (pc := 126) 8 6 82 flX8_22 dX8_findCosts_126 (kS_77) (by decide) (by decide) rfl (kR_77_6) ?_
                            refine V.iload_n (pc := 129) 4 dX8_findCosts_129 rfl ?_
                            refine V.ia (pc := 130) (len := 16) p ((he σ p : Nat) : Int) dX8_findCosts_130 (kS_82) (rfl) (by omega) (hCp.2.1) ?_
                            refine V.ia (pc := 131) (len := 6) (he σ p) (encM (te σ (he σ p))) dX8_findCosts_131 (kS_84) (rfl) (by omega) (hC.2.2.1 _ (by omega)) ?_
                            refine V.istore (pc := 132) (i := 6) dX8_findCosts_132 (by decide) (ls' := [(6, vI (encM (te σ (he σ p)))), (5, vI 1), (0, vR 77), (1, vI L), (2, vI z), (3, vI ((p : Nat) : Int)), (4, vI ((v : Nat) : Int))]) rfl ?_
                            refine V.iload (pc := 134) 0 dX8_findCosts_134 rfl ?_
                            refine V.if_lt (pc := 136) 156 dX8_findCosts_136 (by decide) (fun h136 => ?_) (fun h136 => ?_)
                            · have hfit : fitB σ (heardF σ) L (canF σ L) p v = true := by unfold fitB; rw [if_pos hyl]; exact decide_eq_true (Or.inl (encM_none.mp (by omega)))
                              refine V.iconst (pc := 156) (z := 1) dX8_findCosts_156 rfl ⟨by decide, by decide⟩ ?_
                              refine V.goto (pc := 157) 161 dX8_findCosts_157 (by decide) ?_
                              refine V.istore (pc := 161) (i := 5) dX8_findCosts_161 (by decide) (ls' := [(5, vI 1), (6, vI (encM (te σ (he σ p)))), (0, vR 77), (1, vI L), (2, vI z), (3, vI ((p : Nat) : Int)), (4, vI ((v : Nat) : Int))]) rfl ?_
                              refine V.aload_n (pc := 163) 2 dX8_findCosts_163 rfl ?_
                              refine V.gr (pc := 164) 8 17 88 flX8_41 dX8_findCosts_164 (kS_77) (by decide) (by decide) rfl (kR_77_17) ?_
                              refine V.iload_n (pc := 167) 5 dX8_findCosts_167 rfl ?_
                              refine V.iload (pc := 168) 6 dX8_findCosts_168 rfl ?_
                              refine V.callS (pc := 170) (e1 := eX8_at) 2 [vI ((p : Nat) : Int), vI ((v : Nat) : Int)] [vR 88] mfX8_at slX8_at mlX8_175 dX8_findCosts_170 rfl rfl (Nat.le_of_ble_eq_true rfl) ⟨by decide, by decide, by decide, by decide⟩ ?_
                              refine c_X8_at KW (upR (upR (upR (upR (upR (upR hi 77 f77) 86 f86) 87 f87) 78 f78) 79 f79) 88 g88) (upR hl 89 g89) p v (by omega) (by omega) _ ?_
                              refine V.qI (pc := 170) rfl rfl ?_
                              refine V.iload (pc := 173) 0 dX8_findCosts_173 rfl ?_
                              refine V.if_eq (pc := 175) 182 dX8_findCosts_175 (by decide) (fun hc => by exact absurd hc (by decide)) (fun h175 => ?_)
                              refine V.iconst (pc := 178) (z := 0) dX8_findCosts_178 rfl ⟨by decide, by decide⟩ ?_
                              refine V.goto (pc := 179) 185 dX8_findCosts_179 (by decide) ?_
                              refine V.is (pc := 185) (len := 6188) (hi' := (upR (upR (upR (upR (upR (upR hi 77 f77) 86 f86) 87 f87) 78 f78) 79 f79) 88 (updF g88 (364 * p + v) 0))) (364 * p + v) dX8_findCosts_185 (kS_88) (rfl) (by omega) u1 ?_
                              refine V.aload_n (pc := 186) 2 dX8_findCosts_186 rfl ?_
                              refine V.gr (pc := 187) 8 18 89 flX8_44 dX8_findCosts_187 (kS_77) (by decide) (by decide) rfl (kR_77_18) ?_
                              refine V.iload_n (pc := 190) 5 dX8_findCosts_190 rfl ?_
                              refine V.iload (pc := 191) 6 dX8_findCosts_191 rfl ?_
                              refine V.callS (pc := 193) (e1 := eX8_at) 2 [vI ((p : Nat) : Int), vI ((v : Nat) : Int)] [vR 89] mfX8_at slX8_at mlX8_175 dX8_findCosts_193 rfl rfl (Nat.le_of_ble_eq_true rfl) ⟨by decide, by decide, by decide, by decide⟩ ?_
                              refine c_X8_at KW (upR (upR (upR (upR (upR (upR hi 77 f77) 86 f86) 87 f87) 78 f78) 79 f79) 88 (updF g88 (364 * p + v) 0)) (upR hl 89 g89) p v (by omega) (by omega) _ ?_
                              refine V.qI (pc := 193) rfl rfl ?_
                              refine V.iload (pc := 196) 0 dX8_findCosts_196 rfl ?_
                              refine V.if_eq (pc := 198) 205 dX8_findCosts_198 (by decide) (fun hc => by exact absurd hc (by decide)) (fun h198 => ?_)
                              refine V.lconst (pc := 201) (z := 1) dX8_findCosts_201 (by decide +kernel) ⟨by decide, by decide⟩ ?_
                              refine V.goto (pc := 202) 206 dX8_findCosts_202 (by decide) ?_
                              refine V.js (pc := 206) (len := 6188) (hl' := (upR hl 89 (updF g89 (364 * p + v) 1))) (364 * p + v) dX8_findCosts_206 (kS_89) (rfl) (by omega) u1 ?_
                              refine V.iinc (pc := 207) (r := ((v + 1 : Nat) : Int)) 6 dX8_findCosts_207 rfl (w32_of (by omega) (by omega) (by omega)) (by decide) (ls' := [(4, vI ((v + 1 : Nat) : Int)), (5, vI 1), (6, vI (encM (te σ (he σ p)))), (0, vR 77), (1, vI L), (2, vI z), (3, vI ((p : Nat) : Int))]) rfl ?_
                              refine V.goto (pc := 210) 71 dX8_findCosts_210 (by decide) ?_
                              refine V.locs [3, 4, 5, 6, 0] (ls' := [(0, vR 77), (1, vI L), (2, vI z), (3, vI ((p : Nat) : Int)), (4, vI ((v + 1 : Nat) : Int))]) rfl ?_
                              exact ih71 (v + 1) (updF g88 (364 * p + v) 0) (updF g89 (364 * p + v) 1) (by omega) (RIp_t hR2 (by omega) hfit) (by omega)
                            · skip
                              refine V.aload_n (pc := 139) 2 dX8_findCosts_139 rfl ?_
                              refine V.gr (pc := 140) 8 6 82 flX8_22 dX8_findCosts_140 (kS_77) (by decide) (by decide) rfl (kR_77_6) ?_
                              refine V.iload_n (pc := 143) 5 dX8_findCosts_143 rfl ?_
                              refine V.ia (pc := 144) (len := 16) p ((he σ p : Nat) : Int) dX8_findCosts_144 (kS_82) (rfl) (by omega) (hCp.2.1) ?_
                              refine V.iload_n (pc := 145) 3 dX8_findCosts_145 rfl ?_
                              refine V.icmp_eq (pc := 146) 156 dX8_findCosts_146 (by decide) (fun h146 => ?_) (fun h146 => ?_)
                              · have hfit : fitB σ (heardF σ) L (canF σ L) p v = true := by unfold fitB; rw [if_pos hyl]; exact decide_eq_true (Or.inr (Or.inl (by omega)))
                                refine V.iconst (pc := 156) (z := 1) dX8_findCosts_156 rfl ⟨by decide, by decide⟩ ?_
                                refine V.goto (pc := 157) 161 dX8_findCosts_157 (by decide) ?_
                                refine V.istore (pc := 161) (i := 5) dX8_findCosts_161 (by decide) (ls' := [(5, vI 1), (6, vI (encM (te σ (he σ p)))), (0, vR 77), (1, vI L), (2, vI z), (3, vI ((p : Nat) : Int)), (4, vI ((v : Nat) : Int))]) rfl ?_
                                refine V.aload_n (pc := 163) 2 dX8_findCosts_163 rfl ?_
                                refine V.gr (pc := 164) 8 17 88 flX8_41 dX8_findCosts_164 (kS_77) (by decide) (by decide) rfl (kR_77_17) ?_
                                refine V.iload_n (pc := 167) 5 dX8_findCosts_167 rfl ?_
                                refine V.iload (pc := 168) 6 dX8_findCosts_168 rfl ?_
                                refine V.callS (pc := 170) (e1 := eX8_at) 2 [vI ((p : Nat) : Int), vI ((v : Nat) : Int)] [vR 88] mfX8_at slX8_at mlX8_175 dX8_findCosts_170 rfl rfl (Nat.le_of_ble_eq_true rfl) ⟨by decide, by decide, by decide, by decide⟩ ?_
                                refine c_X8_at KW (upR (upR (upR (upR (upR (upR hi 77 f77) 86 f86) 87 f87) 78 f78) 79 f79) 88 g88) (upR hl 89 g89) p v (by omega) (by omega) _ ?_
                                refine V.qI (pc := 170) rfl rfl ?_
                                refine V.iload (pc := 173) 0 dX8_findCosts_173 rfl ?_
                                refine V.if_eq (pc := 175) 182 dX8_findCosts_175 (by decide) (fun hc => by exact absurd hc (by decide)) (fun h175 => ?_)
                                refine V.iconst (pc := 178) (z := 0) dX8_findCosts_178 rfl ⟨by decide, by decide⟩ ?_
                                refine V.goto (pc := 179) 185 dX8_findCosts_179 (by decide) ?_
                                refine V.is (pc := 185) (len := 6188) (hi' := (upR (upR (upR (upR (upR (upR hi 77 f77) 86 f86) 87 f87) 78 f78) 79 f79) 88 (updF g88 (364 * p + v) 0))) (364 * p + v) dX8_findCosts_185 (kS_88) (rfl) (by omega) u1 ?_
                                refine V.aload_n (pc := 186) 2 dX8_findCosts_186 rfl ?_
                                refine V.gr (pc := 187) 8 18 89 flX8_44 dX8_findCosts_187 (kS_77) (by decide) (by decide) rfl (kR_77_18) ?_
                                refine V.iload_n (pc := 190) 5 dX8_findCosts_190 rfl ?_
                                refine V.iload (pc := 191) 6 dX8_findCosts_191 rfl ?_
                                refine V.callS (pc := 193) (e1 := eX8_at) 2 [vI ((p : Nat) : Int), vI ((v : Nat) : Int)] [vR 89] mfX8_at slX8_at mlX8_175 dX8_findCosts_193 rfl rfl (Nat.le_of_ble_eq_true rfl) ⟨by decide, by decide, by decide, by decide⟩ ?_
                                refine c_X8_at KW (upR (upR (upR (upR (upR (upR hi 77 f77) 86 f86) 87 f87) 78 f78) 79 f79) 88 (updF g88 (364 * p + v) 0)) (upR hl 89 g89) p v (by omega) (by omega) _ ?_
                                refine V.qI (pc := 193) rfl rfl ?_
                                refine V.iload (pc := 196) 0 dX8_findCosts_196 rfl ?_
                                refine V.if_eq (pc := 198) 205 dX8_findCosts_198 (by decide) (fun hc => by exact absurd hc (by decide)) (fun h198 => ?_)
                                refine V.lconst (pc := 201) (z := 1) dX8_findCosts_201 (by decide +kernel) ⟨by decide, by decide⟩ ?_
                                refine V.goto (pc := 202) 206 dX8_findCosts_202 (by decide) ?_
                                refine V.js (pc := 206) (len := 6188) (hl' := (upR hl 89 (updF g89 (364 * p + v) 1))) (364 * p + v) dX8_findCosts_206 (kS_89) (rfl) (by omega) u1 ?_
                                refine V.iinc (pc := 207) (r := ((v + 1 : Nat) : Int)) 6 dX8_findCosts_207 rfl (w32_of (by omega) (by omega) (by omega)) (by decide) (ls' := [(4, vI ((v + 1 : Nat) : Int)), (5, vI 1), (6, vI (encM (te σ (he σ p)))), (0, vR 77), (1, vI L), (2, vI z), (3, vI ((p : Nat) : Int))]) rfl ?_
                                refine V.goto (pc := 210) 71 dX8_findCosts_210 (by decide) ?_
                                refine V.locs [3, 4, 5, 6, 0] (ls' := [(0, vR 77), (1, vI L), (2, vI z), (3, vI ((p : Nat) : Int)), (4, vI ((v + 1 : Nat) : Int))]) rfl ?_
                                exact ih71 (v + 1) (updF g88 (364 * p + v) 0) (updF g89 (364 * p + v) 1) (by omega) (RIp_t hR2 (by omega) hfit) (by omega)
                              · skip
                                refine V.iload (pc := 149) 0 dX8_findCosts_149 rfl ?_
                                refine V.iload (pc := 151) 6 dX8_findCosts_151 rfl ?_
                                refine V.icmp_ne (pc := 153) 160 dX8_findCosts_153 (by decide) (fun h153 => ?_) (fun h153 => ?_)
                                · have hfit : fitB σ (heardF σ) L (canF σ L) p v = false := by unfold fitB; rw [if_pos hyl]; exact decide_eq_false (fun q => by rcases q with q | q | q; { rw [q] at h136; exact h136 (by decide) }; { omega }; { exact absurd (encM_v.mpr q) (by omega) })
                                  refine V.iconst (pc := 160) (z := 0) dX8_findCosts_160 rfl ⟨by decide, by decide⟩ ?_
                                  refine V.istore (pc := 161) (i := 5) dX8_findCosts_161 (by decide) (ls' := [(5, vI 0), (6, vI (encM (te σ (he σ p)))), (0, vR 77), (1, vI L), (2, vI z), (3, vI ((p : Nat) : Int)), (4, vI ((v : Nat) : Int))]) rfl ?_
                                  refine V.aload_n (pc := 163) 2 dX8_findCosts_163 rfl ?_
                                  refine V.gr (pc := 164) 8 17 88 flX8_41 dX8_findCosts_164 (kS_77) (by decide) (by decide) rfl (kR_77_17) ?_
                                  refine V.iload_n (pc := 167) 5 dX8_findCosts_167 rfl ?_
                                  refine V.iload (pc := 168) 6 dX8_findCosts_168 rfl ?_
                                  refine V.callS (pc := 170) (e1 := eX8_at) 2 [vI ((p : Nat) : Int), vI ((v : Nat) : Int)] [vR 88] mfX8_at slX8_at mlX8_175 dX8_findCosts_170 rfl rfl (Nat.le_of_ble_eq_true rfl) ⟨by decide, by decide, by decide, by decide⟩ ?_
                                  refine c_X8_at KW (upR (upR (upR (upR (upR (upR hi 77 f77) 86 f86) 87 f87) 78 f78) 79 f79) 88 g88) (upR hl 89 g89) p v (by omega) (by omega) _ ?_
                                  refine V.qI (pc := 170) rfl rfl ?_
                                  refine V.iload (pc := 173) 0 dX8_findCosts_173 rfl ?_
                                  refine V.if_eq (pc := 175) 182 dX8_findCosts_175 (by decide) (fun h175 => ?_) (fun hc => by exact absurd hc (by decide))
                                  refine V.sipush (pc := 182) (z := 1000) dX8_findCosts_182 (by decide +kernel) ⟨by decide, by decide⟩ ?_
                                  refine V.is (pc := 185) (len := 6188) (hi' := (upR (upR (upR (upR (upR (upR hi 77 f77) 86 f86) 87 f87) 78 f78) 79 f79) 88 (updF g88 (364 * p + v) 1000))) (364 * p + v) dX8_findCosts_185 (kS_88) (rfl) (by omega) u1 ?_
                                  refine V.aload_n (pc := 186) 2 dX8_findCosts_186 rfl ?_
                                  refine V.gr (pc := 187) 8 18 89 flX8_44 dX8_findCosts_187 (kS_77) (by decide) (by decide) rfl (kR_77_18) ?_
                                  refine V.iload_n (pc := 190) 5 dX8_findCosts_190 rfl ?_
                                  refine V.iload (pc := 191) 6 dX8_findCosts_191 rfl ?_
                                  refine V.callS (pc := 193) (e1 := eX8_at) 2 [vI ((p : Nat) : Int), vI ((v : Nat) : Int)] [vR 89] mfX8_at slX8_at mlX8_175 dX8_findCosts_193 rfl rfl (Nat.le_of_ble_eq_true rfl) ⟨by decide, by decide, by decide, by decide⟩ ?_
                                  refine c_X8_at KW (upR (upR (upR (upR (upR (upR hi 77 f77) 86 f86) 87 f87) 78 f78) 79 f79) 88 (updF g88 (364 * p + v) 1000)) (upR hl 89 g89) p v (by omega) (by omega) _ ?_
                                  refine V.qI (pc := 193) rfl rfl ?_
                                  refine V.iload (pc := 196) 0 dX8_findCosts_196 rfl ?_
                                  refine V.if_eq (pc := 198) 205 dX8_findCosts_198 (by decide) (fun h198 => ?_) (fun hc => by exact absurd hc (by decide))
                                  refine V.lconst (pc := 205) (z := 0) dX8_findCosts_205 (by decide +kernel) ⟨by decide, by decide⟩ ?_
                                  refine V.js (pc := 206) (len := 6188) (hl' := (upR hl 89 (updF g89 (364 * p + v) 0))) (364 * p + v) dX8_findCosts_206 (kS_89) (rfl) (by omega) u1 ?_
                                  refine V.iinc (pc := 207) (r := ((v + 1 : Nat) : Int)) 6 dX8_findCosts_207 rfl (w32_of (by omega) (by omega) (by omega)) (by decide) (ls' := [(4, vI ((v + 1 : Nat) : Int)), (5, vI 0), (6, vI (encM (te σ (he σ p)))), (0, vR 77), (1, vI L), (2, vI z), (3, vI ((p : Nat) : Int))]) rfl ?_
                                  refine V.goto (pc := 210) 71 dX8_findCosts_210 (by decide) ?_
                                  refine V.locs [3, 4, 5, 6, 0] (ls' := [(0, vR 77), (1, vI L), (2, vI z), (3, vI ((p : Nat) : Int)), (4, vI ((v + 1 : Nat) : Int))]) rfl ?_
                                  exact ih71 (v + 1) (updF g88 (364 * p + v) 1000) (updF g89 (364 * p + v) 0) (by omega) (RIp_f hR2 (by omega) hfit) (by omega)
                                · have hfit : fitB σ (heardF σ) L (canF σ L) p v = true := by unfold fitB; rw [if_pos hyl]; exact decide_eq_true (Or.inr (Or.inr (encM_v.mp (by omega))))
                                  refine V.iconst (pc := 156) (z := 1) dX8_findCosts_156 rfl ⟨by decide, by decide⟩ ?_
                                  refine V.goto (pc := 157) 161 dX8_findCosts_157 (by decide) ?_
                                  refine V.istore (pc := 161) (i := 5) dX8_findCosts_161 (by decide) (ls' := [(5, vI 1), (6, vI (encM (te σ (he σ p)))), (0, vR 77), (1, vI L), (2, vI z), (3, vI ((p : Nat) : Int)), (4, vI ((v : Nat) : Int))]) rfl ?_
                                  refine V.aload_n (pc := 163) 2 dX8_findCosts_163 rfl ?_
                                  refine V.gr (pc := 164) 8 17 88 flX8_41 dX8_findCosts_164 (kS_77) (by decide) (by decide) rfl (kR_77_17) ?_
                                  refine V.iload_n (pc := 167) 5 dX8_findCosts_167 rfl ?_
                                  refine V.iload (pc := 168) 6 dX8_findCosts_168 rfl ?_
                                  refine V.callS (pc := 170) (e1 := eX8_at) 2 [vI ((p : Nat) : Int), vI ((v : Nat) : Int)] [vR 88] mfX8_at slX8_at mlX8_175 dX8_findCosts_170 rfl rfl (Nat.le_of_ble_eq_true rfl) ⟨by decide, by decide, by decide, by decide⟩ ?_
                                  refine c_X8_at KW (upR (upR (upR (upR (upR (upR hi 77 f77) 86 f86) 87 f87) 78 f78) 79 f79) 88 g88) (upR hl 89 g89) p v (by omega) (by omega) _ ?_
                                  refine V.qI (pc := 170) rfl rfl ?_
                                  refine V.iload (pc := 173) 0 dX8_findCosts_173 rfl ?_
                                  refine V.if_eq (pc := 175) 182 dX8_findCosts_175 (by decide) (fun hc => by exact absurd hc (by decide)) (fun h175 => ?_)
                                  refine V.iconst (pc := 178) (z := 0) dX8_findCosts_178 rfl ⟨by decide, by decide⟩ ?_
                                  refine V.goto (pc := 179) 185 dX8_findCosts_179 (by decide) ?_
                                  refine V.is (pc := 185) (len := 6188) (hi' := (upR (upR (upR (upR (upR (upR hi 77 f77) 86 f86) 87 f87) 78 f78) 79 f79) 88 (updF g88 (364 * p + v) 0))) (364 * p + v) dX8_findCosts_185 (kS_88) (rfl) (by omega) u1 ?_
                                  refine V.aload_n (pc := 186) 2 dX8_findCosts_186 rfl ?_
                                  refine V.gr (pc := 187) 8 18 89 flX8_44 dX8_findCosts_187 (kS_77) (by decide) (by decide) rfl (kR_77_18) ?_
                                  refine V.iload_n (pc := 190) 5 dX8_findCosts_190 rfl ?_
                                  refine V.iload (pc := 191) 6 dX8_findCosts_191 rfl ?_
                                  refine V.callS (pc := 193) (e1 := eX8_at) 2 [vI ((p : Nat) : Int), vI ((v : Nat) : Int)] [vR 89] mfX8_at slX8_at mlX8_175 dX8_findCosts_193 rfl rfl (Nat.le_of_ble_eq_true rfl) ⟨by decide, by decide, by decide, by decide⟩ ?_
                                  refine c_X8_at KW (upR (upR (upR (upR (upR (upR hi 77 f77) 86 f86) 87 f87) 78 f78) 79 f79) 88 (updF g88 (364 * p + v) 0)) (upR hl 89 g89) p v (by omega) (by omega) _ ?_
                                  refine V.qI (pc := 193) rfl rfl ?_
                                  refine V.iload (pc := 196) 0 dX8_findCosts_196 rfl ?_
                                  refine V.if_eq (pc := 198) 205 dX8_findCosts_198 (by decide) (fun hc => by exact absurd hc (by decide)) (fun h198 => ?_)
                                  refine V.lconst (pc := 201) (z := 1) dX8_findCosts_201 (by decide +kernel) ⟨by decide, by decide⟩ ?_
                                  refine V.goto (pc := 202) 206 dX8_findCosts_202 (by decide) ?_
                                  refine V.js (pc := 206) (len := 6188) (hl' := (upR hl 89 (updF g89 (364 * p + v) 1))) (364 * p + v) dX8_findCosts_206 (kS_89) (rfl) (by omega) u1 ?_
                                  refine V.iinc (pc := 207) (r := ((v + 1 : Nat) : Int)) 6 dX8_findCosts_207 rfl (w32_of (by omega) (by omega) (by omega)) (by decide) (ls' := [(4, vI ((v + 1 : Nat) : Int)), (5, vI 1), (6, vI (encM (te σ (he σ p)))), (0, vR 77), (1, vI L), (2, vI z), (3, vI ((p : Nat) : Int))]) rfl ?_
                                  refine V.goto (pc := 210) 71 dX8_findCosts_210 (by decide) ?_
                                  refine V.locs [3, 4, 5, 6, 0] (ls' := [(0, vR 77), (1, vI L), (2, vI z), (3, vI ((p : Nat) : Int)), (4, vI ((v + 1 : Nat) : Int))]) rfl ?_
                                  exact ih71 (v + 1) (updF g88 (364 * p + v) 0) (updF g89 (364 * p + v) 1) (by omega) (RIp_t hR2 (by omega) hfit) (by omega)
                    · skip
                      refine V.iload_n (pc := 85) 2 dX8_findCosts_85 rfl ?_
                      refine V.if_eq (pc := 86) 93 dX8_findCosts_86 (by decide) (fun h86 => ?_) (fun h86 => ?_)
                      · have hb0 : (decide (p < 16) || canF σ L) = false := by rw [decide_eq_false (show ¬ p < 16 by omega), b2i_F (hz.symm.trans (by omega))]; rfl
                        refine V.iconst (pc := 93) (z := 0) dX8_findCosts_93 rfl ⟨by decide, by decide⟩ ?_
                        refine V.istore (pc := 94) (i := 5) dX8_findCosts_94 (by decide) (ls' := [(5, vI 0), (0, vR 77), (1, vI L), (2, vI z), (3, vI ((p : Nat) : Int)), (4, vI ((v : Nat) : Int))]) rfl ?_
                        refine V.iload_n (pc := 96) 4 dX8_findCosts_96 rfl ?_
                        refine V.aload_n (pc := 97) 1 dX8_findCosts_97 rfl ?_
                        refine V.gi (pc := 98) 8 8 ((nn σ : Nat) : Int) flX8_138 dX8_findCosts_98 (kS_77) (by decide) (by decide) rfl ((hgd 8 (by decide) (by decide) (by decide)).trans hC.2.2.2.1) ?_
                        refine V.icmp_ge (pc := 101) 163 dX8_findCosts_101 (by decide) (fun h101 => ?_) (fun h101 => ?_)
                        · have hnl : ¬ (p < nn σ ∧ heardF σ p = true ∧ lstF σ (heardF σ) p = true) := fun q => by omega
                          have hfit : fitB σ (heardF σ) L (canF σ L) p v = false := by unfold fitB; rw [if_neg hnl]; exact hb0
                          refine V.aload_n (pc := 163) 1 dX8_findCosts_163 rfl ?_
                          refine V.gr (pc := 164) 8 17 88 flX8_41 dX8_findCosts_164 (kS_77) (by decide) (by decide) rfl (kR_77_17) ?_
                          refine V.iload_n (pc := 167) 4 dX8_findCosts_167 rfl ?_
                          refine V.iload (pc := 168) 5 dX8_findCosts_168 rfl ?_
                          refine V.callS (pc := 170) (e1 := eX8_at) 2 [vI ((p : Nat) : Int), vI ((v : Nat) : Int)] [vR 88] mfX8_at slX8_at mlX8_175 dX8_findCosts_170 rfl rfl (Nat.le_of_ble_eq_true rfl) ⟨by decide, by decide, by decide, by decide⟩ ?_
                          refine c_X8_at KW (upR (upR (upR (upR (upR (upR hi 77 f77) 86 f86) 87 f87) 78 f78) 79 f79) 88 g88) (upR hl 89 g89) p v (by omega) (by omega) _ ?_
                          refine V.qI (pc := 170) rfl rfl ?_
                          refine V.iload (pc := 173) 0 dX8_findCosts_173 rfl ?_
                          refine V.if_eq (pc := 175) 182 dX8_findCosts_175 (by decide) (fun h175 => ?_) (fun hc => by exact absurd hc (by decide))
                          refine V.sipush (pc := 182) (z := 1000) dX8_findCosts_182 (by decide +kernel) ⟨by decide, by decide⟩ ?_
                          refine V.is (pc := 185) (len := 6188) (hi' := (upR (upR (upR (upR (upR (upR hi 77 f77) 86 f86) 87 f87) 78 f78) 79 f79) 88 (updF g88 (364 * p + v) 1000))) (364 * p + v) dX8_findCosts_185 (kS_88) (rfl) (by omega) u1 ?_
                          refine V.aload_n (pc := 186) 1 dX8_findCosts_186 rfl ?_
                          refine V.gr (pc := 187) 8 18 89 flX8_44 dX8_findCosts_187 (kS_77) (by decide) (by decide) rfl (kR_77_18) ?_
                          refine V.iload_n (pc := 190) 4 dX8_findCosts_190 rfl ?_
                          refine V.iload (pc := 191) 5 dX8_findCosts_191 rfl ?_
                          refine V.callS (pc := 193) (e1 := eX8_at) 2 [vI ((p : Nat) : Int), vI ((v : Nat) : Int)] [vR 89] mfX8_at slX8_at mlX8_175 dX8_findCosts_193 rfl rfl (Nat.le_of_ble_eq_true rfl) ⟨by decide, by decide, by decide, by decide⟩ ?_
                          refine c_X8_at KW (upR (upR (upR (upR (upR (upR hi 77 f77) 86 f86) 87 f87) 78 f78) 79 f79) 88 (updF g88 (364 * p + v) 1000)) (upR hl 89 g89) p v (by omega) (by omega) _ ?_
                          refine V.qI (pc := 193) rfl rfl ?_
                          refine V.iload (pc := 196) 0 dX8_findCosts_196 rfl ?_
                          refine V.if_eq (pc := 198) 205 dX8_findCosts_198 (by decide) (fun h198 => ?_) (fun hc => by exact absurd hc (by decide))
                          refine V.lconst (pc := 205) (z := 0) dX8_findCosts_205 (by decide +kernel) ⟨by decide, by decide⟩ ?_
                          refine V.js (pc := 206) (len := 6188) (hl' := (upR hl 89 (updF g89 (364 * p + v) 0))) (364 * p + v) dX8_findCosts_206 (kS_89) (rfl) (by omega) u1 ?_
                          refine V.iinc (pc := 207) (r := ((v + 1 : Nat) : Int)) 5 dX8_findCosts_207 rfl (w32_of (by omega) (by omega) (by omega)) (by decide) (ls' := [(4, vI ((v + 1 : Nat) : Int)), (5, vI 0), (0, vR 77), (1, vI L), (2, vI z), (3, vI ((p : Nat) : Int))]) rfl ?_
                          refine V.goto (pc := 210) 71 dX8_findCosts_210 (by decide) ?_
                          refine V.locs [2, 3, 4, 5, 0] (ls' := [(0, vR 77), (1, vI L), (2, vI z), (3, vI ((p : Nat) : Int)), (4, vI ((v + 1 : Nat) : Int))]) rfl ?_
                          exact ih71 (v + 1) (updF g88 (364 * p + v) 1000) (updF g89 (364 * p + v) 0) (by omega) (RIp_f hR2 (by omega) hfit) (by omega)
                        · skip
                          refine V.aload_n (pc := 104) 1 dX8_findCosts_104 rfl ?_
                          refine V.gr (pc := 105) 8 16 87 flX8_37 dX8_findCosts_105 (kS_77) (by decide) (by decide) rfl (kR_77_16) ?_
                          refine V.iload_n (pc := 108) 4 dX8_findCosts_108 rfl ?_
                          refine V.za (pc := 109) (len := 16) p (b2i (heardF σ p)) dX8_findCosts_109 (kS_87) (rfl) (by omega) (hgW.2.2.1 p (by omega)) ?_
                          refine V.if_eq (pc := 110) 163 dX8_findCosts_110 (by decide) (fun h110 => ?_) (fun h110 => ?_)
                          · have hnl : ¬ (p < nn σ ∧ heardF σ p = true ∧ lstF σ (heardF σ) p = true) := fun q => by rw [q.2.1] at h110; exact absurd h110 (by decide)
                            have hfit : fitB σ (heardF σ) L (canF σ L) p v = false := by unfold fitB; rw [if_neg hnl]; exact hb0
                            refine V.aload_n (pc := 163) 1 dX8_findCosts_163 rfl ?_
                            refine V.gr (pc := 164) 8 17 88 flX8_41 dX8_findCosts_164 (kS_77) (by decide) (by decide) rfl (kR_77_17) ?_
                            refine V.iload_n (pc := 167) 4 dX8_findCosts_167 rfl ?_
                            refine V.iload (pc := 168) 5 dX8_findCosts_168 rfl ?_
                            refine V.callS (pc := 170) (e1 := eX8_at) 2 [vI ((p : Nat) : Int), vI ((v : Nat) : Int)] [vR 88] mfX8_at slX8_at mlX8_175 dX8_findCosts_170 rfl rfl (Nat.le_of_ble_eq_true rfl) ⟨by decide, by decide, by decide, by decide⟩ ?_
                            refine c_X8_at KW (upR (upR (upR (upR (upR (upR hi 77 f77) 86 f86) 87 f87) 78 f78) 79 f79) 88 g88) (upR hl 89 g89) p v (by omega) (by omega) _ ?_
                            refine V.qI (pc := 170) rfl rfl ?_
                            refine V.iload (pc := 173) 0 dX8_findCosts_173 rfl ?_
                            refine V.if_eq (pc := 175) 182 dX8_findCosts_175 (by decide) (fun h175 => ?_) (fun hc => by exact absurd hc (by decide))
                            refine V.sipush (pc := 182) (z := 1000) dX8_findCosts_182 (by decide +kernel) ⟨by decide, by decide⟩ ?_
                            refine V.is (pc := 185) (len := 6188) (hi' := (upR (upR (upR (upR (upR (upR hi 77 f77) 86 f86) 87 f87) 78 f78) 79 f79) 88 (updF g88 (364 * p + v) 1000))) (364 * p + v) dX8_findCosts_185 (kS_88) (rfl) (by omega) u1 ?_
                            refine V.aload_n (pc := 186) 1 dX8_findCosts_186 rfl ?_
                            refine V.gr (pc := 187) 8 18 89 flX8_44 dX8_findCosts_187 (kS_77) (by decide) (by decide) rfl (kR_77_18) ?_
                            refine V.iload_n (pc := 190) 4 dX8_findCosts_190 rfl ?_
                            refine V.iload (pc := 191) 5 dX8_findCosts_191 rfl ?_
                            refine V.callS (pc := 193) (e1 := eX8_at) 2 [vI ((p : Nat) : Int), vI ((v : Nat) : Int)] [vR 89] mfX8_at slX8_at mlX8_175 dX8_findCosts_193 rfl rfl (Nat.le_of_ble_eq_true rfl) ⟨by decide, by decide, by decide, by decide⟩ ?_
                            refine c_X8_at KW (upR (upR (upR (upR (upR (upR hi 77 f77) 86 f86) 87 f87) 78 f78) 79 f79) 88 (updF g88 (364 * p + v) 1000)) (upR hl 89 g89) p v (by omega) (by omega) _ ?_
                            refine V.qI (pc := 193) rfl rfl ?_
                            refine V.iload (pc := 196) 0 dX8_findCosts_196 rfl ?_
                            refine V.if_eq (pc := 198) 205 dX8_findCosts_198 (by decide) (fun h198 => ?_) (fun hc => by exact absurd hc (by decide))
                            refine V.lconst (pc := 205) (z := 0) dX8_findCosts_205 (by decide +kernel) ⟨by decide, by decide⟩ ?_
                            refine V.js (pc := 206) (len := 6188) (hl' := (upR hl 89 (updF g89 (364 * p + v) 0))) (364 * p + v) dX8_findCosts_206 (kS_89) (rfl) (by omega) u1 ?_
                            refine V.iinc (pc := 207) (r := ((v + 1 : Nat) : Int)) 5 dX8_findCosts_207 rfl (w32_of (by omega) (by omega) (by omega)) (by decide) (ls' := [(4, vI ((v + 1 : Nat) : Int)), (5, vI 0), (0, vR 77), (1, vI L), (2, vI z), (3, vI ((p : Nat) : Int))]) rfl ?_
                            refine V.goto (pc := 210) 71 dX8_findCosts_210 (by decide) ?_
                            refine V.locs [2, 3, 4, 5, 0] (ls' := [(0, vR 77), (1, vI L), (2, vI z), (3, vI ((p : Nat) : Int)), (4, vI ((v + 1 : Nat) : Int))]) rfl ?_
                            exact ih71 (v + 1) (updF g88 (364 * p + v) 1000) (updF g89 (364 * p + v) 0) (by omega) (RIp_f hR2 (by omega) hfit) (by omega)
                          · skip
                            refine V.aload_n (pc := 113) 1 dX8_findCosts_113 rfl ?_
                            refine V.iload_n (pc := 114) 4 dX8_findCosts_114 rfl ?_
                            refine V.callV (pc := 115) (e1 := eX8_isLast) (o := 77) (c := 8) 1 [vI ((p : Nat) : Int)] [] mfX8_isLast slX8_isLast mlX8_178 dX8_findCosts_115 (kS_77) (by decide) rfl rfl rfl (Nat.le_of_ble_eq_true rfl) ⟨by decide, by decide, by decide, by decide⟩ ?_
                            refine c_X8_isLast (upR (upR (upR (upR (upR (upR hi 77 f77) 86 f86) 87 f87) 78 f78) 79 f79) 88 g88) (upR hl 89 g89) σ (MR_up hC ((hgd 8 (by decide) (by decide) (by decide))) ((hgd 9 (by decide) (by decide) (by decide))) ((hgd 11 (by decide) (by decide) (by decide))) rfl rfl rfl rfl rfl) (heardF σ) (fun j hj => hgW.2.2.1 j hj) p (by omega) _ ?_
                            refine V.qI (pc := 115) rfl rfl ?_
                            refine V.if_eq (pc := 118) 163 dX8_findCosts_118 (by decide) (fun h118 => ?_) (fun h118 => ?_)
                            · have hnl : ¬ (p < nn σ ∧ heardF σ p = true ∧ lstF σ (heardF σ) p = true) := fun q => by rw [q.2.2] at h118; exact absurd h118 (by decide)
                              have hfit : fitB σ (heardF σ) L (canF σ L) p v = false := by unfold fitB; rw [if_neg hnl]; exact hb0
                              refine V.aload_n (pc := 163) 1 dX8_findCosts_163 rfl ?_
                              refine V.gr (pc := 164) 8 17 88 flX8_41 dX8_findCosts_164 (kS_77) (by decide) (by decide) rfl (kR_77_17) ?_
                              refine V.iload_n (pc := 167) 4 dX8_findCosts_167 rfl ?_
                              refine V.iload (pc := 168) 5 dX8_findCosts_168 rfl ?_
                              refine V.callS (pc := 170) (e1 := eX8_at) 2 [vI ((p : Nat) : Int), vI ((v : Nat) : Int)] [vR 88] mfX8_at slX8_at mlX8_175 dX8_findCosts_170 rfl rfl (Nat.le_of_ble_eq_true rfl) ⟨by decide, by decide, by decide, by decide⟩ ?_
                              refine c_X8_at KW (upR (upR (upR (upR (upR (upR hi 77 f77) 86 f86) 87 f87) 78 f78) 79 f79) 88 g88) (upR hl 89 g89) p v (by omega) (by omega) _ ?_
                              refine V.qI (pc := 170) rfl rfl ?_
                              refine V.iload (pc := 173) 0 dX8_findCosts_173 rfl ?_
                              refine V.if_eq (pc := 175) 182 dX8_findCosts_175 (by decide) (fun h175 => ?_) (fun hc => by exact absurd hc (by decide))
                              refine V.sipush (pc := 182) (z := 1000) dX8_findCosts_182 (by decide +kernel) ⟨by decide, by decide⟩ ?_
                              refine V.is (pc := 185) (len := 6188) (hi' := (upR (upR (upR (upR (upR (upR hi 77 f77) 86 f86) 87 f87) 78 f78) 79 f79) 88 (updF g88 (364 * p + v) 1000))) (364 * p + v) dX8_findCosts_185 (kS_88) (rfl) (by omega) u1 ?_
                              refine V.aload_n (pc := 186) 1 dX8_findCosts_186 rfl ?_
                              refine V.gr (pc := 187) 8 18 89 flX8_44 dX8_findCosts_187 (kS_77) (by decide) (by decide) rfl (kR_77_18) ?_
                              refine V.iload_n (pc := 190) 4 dX8_findCosts_190 rfl ?_
                              refine V.iload (pc := 191) 5 dX8_findCosts_191 rfl ?_
                              refine V.callS (pc := 193) (e1 := eX8_at) 2 [vI ((p : Nat) : Int), vI ((v : Nat) : Int)] [vR 89] mfX8_at slX8_at mlX8_175 dX8_findCosts_193 rfl rfl (Nat.le_of_ble_eq_true rfl) ⟨by decide, by decide, by decide, by decide⟩ ?_
                              refine c_X8_at KW (upR (upR (upR (upR (upR (upR hi 77 f77) 86 f86) 87 f87) 78 f78) 79 f79) 88 (updF g88 (364 * p + v) 1000)) (upR hl 89 g89) p v (by omega) (by omega) _ ?_
                              refine V.qI (pc := 193) rfl rfl ?_
                              refine V.iload (pc := 196) 0 dX8_findCosts_196 rfl ?_
                              refine V.if_eq (pc := 198) 205 dX8_findCosts_198 (by decide) (fun h198 => ?_) (fun hc => by exact absurd hc (by decide))
                              refine V.lconst (pc := 205) (z := 0) dX8_findCosts_205 (by decide +kernel) ⟨by decide, by decide⟩ ?_
                              refine V.js (pc := 206) (len := 6188) (hl' := (upR hl 89 (updF g89 (364 * p + v) 0))) (364 * p + v) dX8_findCosts_206 (kS_89) (rfl) (by omega) u1 ?_
                              refine V.iinc (pc := 207) (r := ((v + 1 : Nat) : Int)) 5 dX8_findCosts_207 rfl (w32_of (by omega) (by omega) (by omega)) (by decide) (ls' := [(4, vI ((v + 1 : Nat) : Int)), (5, vI 0), (0, vR 77), (1, vI L), (2, vI z), (3, vI ((p : Nat) : Int))]) rfl ?_
                              refine V.goto (pc := 210) 71 dX8_findCosts_210 (by decide) ?_
                              refine V.locs [2, 3, 4, 5, 0] (ls' := [(0, vR 77), (1, vI L), (2, vI z), (3, vI ((p : Nat) : Int)), (4, vI ((v + 1 : Nat) : Int))]) rfl ?_
                              exact ih71 (v + 1) (updF g88 (364 * p + v) 1000) (updF g89 (364 * p + v) 0) (by omega) (RIp_f hR2 (by omega) hfit) (by omega)
                            · have hyl : (p < nn σ ∧ heardF σ p = true ∧ lstF σ (heardF σ) p = true) := ⟨by omega, b2i_T h110, b2i_T h118⟩
                              have hpp := hwf.2.2.2.1 p (by omega)
                              have hCp := hC.2.2.2.2.1 p (by omega)
                              refine V.aload_n (pc := 121) 1 dX8_findCosts_121 rfl ?_
                              refine V.gr (pc := 122) 8 10 84 flX8_28 dX8_findCosts_122 (kS_77) (by decide) (by decide) rfl (kR_77_10) ?_
                              refine V.aload_n (pc := 125) 1 dX8_findCosts_125 rfl ?_
                              refine V.gr (pc := 126) 8 6 82 flX8_22 dX8_findCosts_126 (kS_77) (by decide) (by decide) rfl (kR_77_6) ?_
                              refine V.iload_n (pc := 129) 4 dX8_findCosts_129 rfl ?_
                              refine V.ia (pc := 130) (len := 16) p ((he σ p : Nat) : Int) dX8_findCosts_130 (kS_82) (rfl) (by omega) (hCp.2.1) ?_
                              refine V.ia (pc := 131) (len := 6) (he σ p) (encM (te σ (he σ p))) dX8_findCosts_131 (kS_84) (rfl) (by omega) (hC.2.2.1 _ (by omega)) ?_
                              refine V.istore (pc := 132) (i := 6) dX8_findCosts_132 (by decide) (ls' := [(6, vI (encM (te σ (he σ p)))), (5, vI 0), (0, vR 77), (1, vI L), (2, vI z), (3, vI ((p : Nat) : Int)), (4, vI ((v : Nat) : Int))]) rfl ?_
                              refine V.iload (pc := 134) 0 dX8_findCosts_134 rfl ?_
                              refine V.if_lt (pc := 136) 156 dX8_findCosts_136 (by decide) (fun h136 => ?_) (fun h136 => ?_)
                              · have hfit : fitB σ (heardF σ) L (canF σ L) p v = true := by unfold fitB; rw [if_pos hyl]; exact decide_eq_true (Or.inl (encM_none.mp (by omega)))
                                refine V.iconst (pc := 156) (z := 1) dX8_findCosts_156 rfl ⟨by decide, by decide⟩ ?_
                                refine V.goto (pc := 157) 161 dX8_findCosts_157 (by decide) ?_
                                refine V.istore (pc := 161) (i := 5) dX8_findCosts_161 (by decide) (ls' := [(5, vI 1), (6, vI (encM (te σ (he σ p)))), (0, vR 77), (1, vI L), (2, vI z), (3, vI ((p : Nat) : Int)), (4, vI ((v : Nat) : Int))]) rfl ?_
                                refine V.aload_n (pc := 163) 2 dX8_findCosts_163 rfl ?_
                                refine V.gr (pc := 164) 8 17 88 flX8_41 dX8_findCosts_164 (kS_77) (by decide) (by decide) rfl (kR_77_17) ?_
                                refine V.iload_n (pc := 167) 5 dX8_findCosts_167 rfl ?_
                                refine V.iload (pc := 168) 6 dX8_findCosts_168 rfl ?_
                                refine V.callS (pc := 170) (e1 := eX8_at) 2 [vI ((p : Nat) : Int), vI ((v : Nat) : Int)] [vR 88] mfX8_at slX8_at mlX8_175 dX8_findCosts_170 rfl rfl (Nat.le_of_ble_eq_true rfl) ⟨by decide, by decide, by decide, by decide⟩ ?_
                                refine c_X8_at KW (upR (upR (upR (upR (upR (upR hi 77 f77) 86 f86) 87 f87) 78 f78) 79 f79) 88 g88) (upR hl 89 g89) p v (by omega) (by omega) _ ?_
                                refine V.qI (pc := 170) rfl rfl ?_
                                refine V.iload (pc := 173) 0 dX8_findCosts_173 rfl ?_
                                refine V.if_eq (pc := 175) 182 dX8_findCosts_175 (by decide) (fun hc => by exact absurd hc (by decide)) (fun h175 => ?_)
                                refine V.iconst (pc := 178) (z := 0) dX8_findCosts_178 rfl ⟨by decide, by decide⟩ ?_
                                refine V.goto (pc := 179) 185 dX8_findCosts_179 (by decide) ?_
                                refine V.is (pc := 185) (len := 6188) (hi' := (upR (upR (upR (upR (upR (upR hi 77 f77) 86 f86) 87 f87) 78 f78) 79 f79) 88 (updF g88 (364 * p + v) 0))) (364 * p + v) dX8_findCosts_185 (kS_88) (rfl) (by omega) u1 ?_
                                refine V.aload_n (pc := 186) 2 dX8_findCosts_186 rfl ?_
                                refine V.gr (pc := 187) 8 18 89 flX8_44 dX8_findCosts_187 (kS_77) (by decide) (by decide) rfl (kR_77_18) ?_
                                refine V.iload_n (pc := 190) 5 dX8_findCosts_190 rfl ?_
                                refine V.iload (pc := 191) 6 dX8_findCosts_191 rfl ?_
                                refine V.callS (pc := 193) (e1 := eX8_at) 2 [vI ((p : Nat) : Int), vI ((v : Nat) : Int)] [vR 89] mfX8_at slX8_at mlX8_175 dX8_findCosts_193 rfl rfl (Nat.le_of_ble_eq_true rfl) ⟨by decide, by decide, by decide, by decide⟩ ?_
                                refine c_X8_at KW (upR (upR (upR (upR (upR (upR hi 77 f77) 86 f86) 87 f87) 78 f78) 79 f79) 88 (updF g88 (364 * p + v) 0)) (upR hl 89 g89) p v (by omega) (by omega) _ ?_
                                refine V.qI (pc := 193) rfl rfl ?_
                                refine V.iload (pc := 196) 0 dX8_findCosts_196 rfl ?_
                                refine V.if_eq (pc := 198) 205 dX8_findCosts_198 (by decide) (fun hc => by exact absurd hc (by decide)) (fun h198 => ?_)
                                refine V.lconst (pc := 201) (z := 1) dX8_findCosts_201 (by decide +kernel) ⟨by decide, by decide⟩ ?_
                                refine V.goto (pc := 202) 206 dX8_findCosts_202 (by decide) ?_
                                refine V.js (pc := 206) (len := 6188) (hl' := (upR hl 89 (updF g89 (364 * p + v) 1))) (364 * p + v) dX8_findCosts_206 (kS_89) (rfl) (by omega) u1 ?_
                                refine V.iinc (pc := 207) (r := ((v + 1 : Nat) : Int)) 6 dX8_findCosts_207 rfl (w32_of (by omega) (by omega) (by omega)) (by decide) (ls' := [(4, vI ((v + 1 : Nat) : Int)), (5, vI 1), (6, vI (encM (te σ (he σ p)))), (0, vR 77), (1, vI L), (2, vI z), (3, vI ((p : Nat) : Int))]) rfl ?_
                                refine V.goto (pc := 210) 71 dX8_findCosts_210 (by decide) ?_
                                refine V.locs [3, 4, 5, 6, 0] (ls' := [(0, vR 77), (1, vI L), (2, vI z), (3, vI ((p : Nat) : Int)), (4, vI ((v + 1 : Nat) : Int))]) rfl ?_
                                exact ih71 (v + 1) (updF g88 (364 * p + v) 0) (updF g89 (364 * p + v) 1) (by omega) (RIp_t hR2 (by omega) hfit) (by omega)
                              · skip
                                refine V.aload_n (pc := 139) 2 dX8_findCosts_139 rfl ?_
                                refine V.gr (pc := 140) 8 6 82 flX8_22 dX8_findCosts_140 (kS_77) (by decide) (by decide) rfl (kR_77_6) ?_
                                refine V.iload_n (pc := 143) 5 dX8_findCosts_143 rfl ?_
                                refine V.ia (pc := 144) (len := 16) p ((he σ p : Nat) : Int) dX8_findCosts_144 (kS_82) (rfl) (by omega) (hCp.2.1) ?_
                                refine V.iload_n (pc := 145) 3 dX8_findCosts_145 rfl ?_
                                refine V.icmp_eq (pc := 146) 156 dX8_findCosts_146 (by decide) (fun h146 => ?_) (fun h146 => ?_)
                                · have hfit : fitB σ (heardF σ) L (canF σ L) p v = true := by unfold fitB; rw [if_pos hyl]; exact decide_eq_true (Or.inr (Or.inl (by omega)))
                                  refine V.iconst (pc := 156) (z := 1) dX8_findCosts_156 rfl ⟨by decide, by decide⟩ ?_
                                  refine V.goto (pc := 157) 161 dX8_findCosts_157 (by decide) ?_
                                  refine V.istore (pc := 161) (i := 5) dX8_findCosts_161 (by decide) (ls' := [(5, vI 1), (6, vI (encM (te σ (he σ p)))), (0, vR 77), (1, vI L), (2, vI z), (3, vI ((p : Nat) : Int)), (4, vI ((v : Nat) : Int))]) rfl ?_
                                  refine V.aload_n (pc := 163) 2 dX8_findCosts_163 rfl ?_
                                  refine V.gr (pc := 164) 8 17 88 flX8_41 dX8_findCosts_164 (kS_77) (by decide) (by decide) rfl (kR_77_17) ?_
                                  refine V.iload_n (pc := 167) 5 dX8_findCosts_167 rfl ?_
                                  refine V.iload (pc := 168) 6 dX8_findCosts_168 rfl ?_
                                  refine V.callS (pc := 170) (e1 := eX8_at) 2 [vI ((p : Nat) : Int), vI ((v : Nat) : Int)] [vR 88] mfX8_at slX8_at mlX8_175 dX8_findCosts_170 rfl rfl (Nat.le_of_ble_eq_true rfl) ⟨by decide, by decide, by decide, by decide⟩ ?_
                                  refine c_X8_at KW (upR (upR (upR (upR (upR (upR hi 77 f77) 86 f86) 87 f87) 78 f78) 79 f79) 88 g88) (upR hl 89 g89) p v (by omega) (by omega) _ ?_
                                  refine V.qI (pc := 170) rfl rfl ?_
                                  refine V.iload (pc := 173) 0 dX8_findCosts_173 rfl ?_
                                  refine V.if_eq (pc := 175) 182 dX8_findCosts_175 (by decide) (fun hc => by exact absurd hc (by decide)) (fun h175 => ?_)
                                  refine V.iconst (pc := 178) (z := 0) dX8_findCosts_178 rfl ⟨by decide, by decide⟩ ?_
                                  refine V.goto (pc := 179) 185 dX8_findCosts_179 (by decide) ?_
                                  refine V.is (pc := 185) (len := 6188) (hi' := (upR (upR (upR (upR (upR (upR hi 77 f77) 86 f86) 87 f87) 78 f78) 79 f79) 88 (updF g88 (364 * p + v) 0))) (364 * p + v) dX8_findCosts_185 (kS_88) (rfl) (by omega) u1 ?_
                                  refine V.aload_n (pc := 186) 2 dX8_findCosts_186 rfl ?_
                                  refine V.gr (pc := 187) 8 18 89 flX8_44 dX8_findCosts_187 (kS_77) (by decide) (by decide) rfl (kR_77_18) ?_
                                  refine V.iload_n (pc := 190) 5 dX8_findCosts_190 rfl ?_
                                  refine V.iload (pc := 191) 6 dX8_findCosts_191 rfl ?_
                                  refine V.callS (pc := 193) (e1 := eX8_at) 2 [vI ((p : Nat) : Int), vI ((v : Nat) : Int)] [vR 89] mfX8_at slX8_at mlX8_175 dX8_findCosts_193 rfl rfl (Nat.le_of_ble_eq_true rfl) ⟨by decide, by decide, by decide, by decide⟩ ?_
                                  refine c_X8_at KW (upR (upR (upR (upR (upR (upR hi 77 f77) 86 f86) 87 f87) 78 f78) 79 f79) 88 (updF g88 (364 * p + v) 0)) (upR hl 89 g89) p v (by omega) (by omega) _ ?_
                                  refine V.qI (pc := 193) rfl rfl ?_
                                  refine V.iload (pc := 196) 0 dX8_findCosts_196 rfl ?_
                                  refine V.if_eq (pc := 198) 205 dX8_findCosts_198 (by decide) (fun hc => by exact absurd hc (by decide)) (fun h198 => ?_)
                                  refine V.lconst (pc := 201) (z := 1) dX8_findCosts_201 (by decide +kernel) ⟨by decide, by decide⟩ ?_
                                  refine V.goto (pc := 202) 206 dX8_findCosts_202 (by decide) ?_
                                  refine V.js (pc := 206) (len := 6188) (hl' := (upR hl 89 (updF g89 (364 * p + v) 1))) (364 * p + v) dX8_findCosts_206 (kS_89) (rfl) (by omega) u1 ?_
                                  refine V.iinc (pc := 207) (r := ((v + 1 : Nat) : Int)) 6 dX8_findCosts_207 rfl (w32_of (by omega) (by omega) (by omega)) (by decide) (ls' := [(4, vI ((v + 1 : Nat) : Int)), (5, vI 1), (6, vI (encM (te σ (he σ p)))), (0, vR 77), (1, vI L), (2, vI z), (3, vI ((p : Nat) : Int))]) rfl ?_
                                  refine V.goto (pc := 210) 71 dX8_findCosts_210 (by decide) ?_
                                  refine V.locs [3, 4, 5, 6, 0] (ls' := [(0, vR 77), (1, vI L), (2, vI z), (3, vI ((p : Nat) : Int)), (4, vI ((v + 1 : Nat) : Int))]) rfl ?_
                                  exact ih71 (v + 1) (updF g88 (364 * p + v) 0) (updF g89 (364 * p + v) 1) (by omega) (RIp_t hR2 (by omega) hfit) (by omega)
                                · skip
                                  refine V.iload (pc := 149) 0 dX8_findCosts_149 rfl ?_
                                  refine V.iload (pc := 151) 6 dX8_findCosts_151 rfl ?_
                                  refine V.icmp_ne (pc := 153) 160 dX8_findCosts_153 (by decide) (fun h153 => ?_) (fun h153 => ?_)
                                  · have hfit : fitB σ (heardF σ) L (canF σ L) p v = false := by unfold fitB; rw [if_pos hyl]; exact decide_eq_false (fun q => by rcases q with q | q | q; { rw [q] at h136; exact h136 (by decide) }; { omega }; { exact absurd (encM_v.mpr q) (by omega) })
                                    refine V.iconst (pc := 160) (z := 0) dX8_findCosts_160 rfl ⟨by decide, by decide⟩ ?_
                                    refine V.istore (pc := 161) (i := 5) dX8_findCosts_161 (by decide) (ls' := [(5, vI 0), (6, vI (encM (te σ (he σ p)))), (0, vR 77), (1, vI L), (2, vI z), (3, vI ((p : Nat) : Int)), (4, vI ((v : Nat) : Int))]) rfl ?_
                                    refine V.aload_n (pc := 163) 2 dX8_findCosts_163 rfl ?_
                                    refine V.gr (pc := 164) 8 17 88 flX8_41 dX8_findCosts_164 (kS_77) (by decide) (by decide) rfl (kR_77_17) ?_
                                    refine V.iload_n (pc := 167) 5 dX8_findCosts_167 rfl ?_
                                    refine V.iload (pc := 168) 6 dX8_findCosts_168 rfl ?_
                                    refine V.callS (pc := 170) (e1 := eX8_at) 2 [vI ((p : Nat) : Int), vI ((v : Nat) : Int)] [vR 88] mfX8_at slX8_at mlX8_175 dX8_findCosts_170 rfl rfl (Nat.le_of_ble_eq_true rfl) ⟨by decide, by decide, by decide, by decide⟩ ?_
                                    refine c_X8_at KW (upR (upR (upR (upR (upR (upR hi 77 f77) 86 f86) 87 f87) 78 f78) 79 f79) 88 g88) (upR hl 89 g89) p v (by omega) (by omega) _ ?_
                                    refine V.qI (pc := 170) rfl rfl ?_
                                    refine V.iload (pc := 173) 0 dX8_findCosts_173 rfl ?_
                                    refine V.if_eq (pc := 175) 182 dX8_findCosts_175 (by decide) (fun h175 => ?_) (fun hc => by exact absurd hc (by decide))
                                    refine V.sipush (pc := 182) (z := 1000) dX8_findCosts_182 (by decide +kernel) ⟨by decide, by decide⟩ ?_
                                    refine V.is (pc := 185) (len := 6188) (hi' := (upR (upR (upR (upR (upR (upR hi 77 f77) 86 f86) 87 f87) 78 f78) 79 f79) 88 (updF g88 (364 * p + v) 1000))) (364 * p + v) dX8_findCosts_185 (kS_88) (rfl) (by omega) u1 ?_
                                    refine V.aload_n (pc := 186) 2 dX8_findCosts_186 rfl ?_
                                    refine V.gr (pc := 187) 8 18 89 flX8_44 dX8_findCosts_187 (kS_77) (by decide) (by decide) rfl (kR_77_18) ?_
                                    refine V.iload_n (pc := 190) 5 dX8_findCosts_190 rfl ?_
                                    refine V.iload (pc := 191) 6 dX8_findCosts_191 rfl ?_
                                    refine V.callS (pc := 193) (e1 := eX8_at) 2 [vI ((p : Nat) : Int), vI ((v : Nat) : Int)] [vR 89] mfX8_at slX8_at mlX8_175 dX8_findCosts_193 rfl rfl (Nat.le_of_ble_eq_true rfl) ⟨by decide, by decide, by decide, by decide⟩ ?_
                                    refine c_X8_at KW (upR (upR (upR (upR (upR (upR hi 77 f77) 86 f86) 87 f87) 78 f78) 79 f79) 88 (updF g88 (364 * p + v) 1000)) (upR hl 89 g89) p v (by omega) (by omega) _ ?_
                                    refine V.qI (pc := 193) rfl rfl ?_
                                    refine V.iload (pc := 196) 0 dX8_findCosts_196 rfl ?_
                                    refine V.if_eq (pc := 198) 205 dX8_findCosts_198 (by decide) (fun h198 => ?_) (fun hc => by exact absurd hc (by decide))
                                    refine V.lconst (pc := 205) (z := 0) dX8_findCosts_205 (by decide +kernel) ⟨by decide, by decide⟩ ?_
                                    refine V.js (pc := 206) (len := 6188) (hl' := (upR hl 89 (updF g89 (364 * p + v) 0))) (364 * p + v) dX8_findCosts_206 (kS_89) (rfl) (by omega) u1 ?_
                                    refine V.iinc (pc := 207) (r := ((v + 1 : Nat) : Int)) 6 dX8_findCosts_207 rfl (w32_of (by omega) (by omega) (by omega)) (by decide) (ls' := [(4, vI ((v + 1 : Nat) : Int)), (5, vI 0), (6, vI (encM (te σ (he σ p)))), (0, vR 77), (1, vI L), (2, vI z), (3, vI ((p : Nat) : Int))]) rfl ?_
                                    refine V.goto (pc := 210) 71 dX8_findCosts_210 (by decide) ?_
                                    refine V.locs [3, 4, 5, 6, 0] (ls' := [(0, vR 77), (1, vI L), (2, vI z), (3, vI ((p : Nat) : Int)), (4, vI ((v + 1 : Nat) : Int))]) rfl ?_
                                    exact ih71 (v + 1) (updF g88 (364 * p + v) 1000) (updF g89 (364 * p + v) 0) (by omega) (RIp_f hR2 (by omega) hfit) (by omega)
                                  · have hfit : fitB σ (heardF σ) L (canF σ L) p v = true := by unfold fitB; rw [if_pos hyl]; exact decide_eq_true (Or.inr (Or.inr (encM_v.mp (by omega))))
                                    refine V.iconst (pc := 156) (z := 1) dX8_findCosts_156 rfl ⟨by decide, by decide⟩ ?_
                                    refine V.goto (pc := 157) 161 dX8_findCosts_157 (by decide) ?_
                                    refine V.istore (pc := 161) (i := 5) dX8_findCosts_161 (by decide) (ls' := [(5, vI 1), (6, vI (encM (te σ (he σ p)))), (0, vR 77), (1, vI L), (2, vI z), (3, vI ((p : Nat) : Int)), (4, vI ((v : Nat) : Int))]) rfl ?_
                                    refine V.aload_n (pc := 163) 2 dX8_findCosts_163 rfl ?_
                                    refine V.gr (pc := 164) 8 17 88 flX8_41 dX8_findCosts_164 (kS_77) (by decide) (by decide) rfl (kR_77_17) ?_
                                    refine V.iload_n (pc := 167) 5 dX8_findCosts_167 rfl ?_
                                    refine V.iload (pc := 168) 6 dX8_findCosts_168 rfl ?_
                                    refine V.callS (pc := 170) (e1 := eX8_at) 2 [vI ((p : Nat) : Int), vI ((v : Nat) : Int)] [vR 88] mfX8_at slX8_at mlX8_175 dX8_findCosts_170 rfl rfl (Nat.le_of_ble_eq_true rfl) ⟨by decide, by decide, by decide, by decide⟩ ?_
                                    refine c_X8_at KW (upR (upR (upR (upR (upR (upR hi 77 f77) 86 f86) 87 f87) 78 f78) 79 f79) 88 g88) (upR hl 89 g89) p v (by omega) (by omega) _ ?_
                                    refine V.qI (pc := 170) rfl rfl ?_
                                    refine V.iload (pc := 173) 0 dX8_findCosts_173 rfl ?_
                                    refine V.if_eq (pc := 175) 182 dX8_findCosts_175 (by decide) (fun hc => by exact absurd hc (by decide)) (fun h175 => ?_)
                                    refine V.iconst (pc := 178) (z := 0) dX8_findCosts_178 rfl ⟨by decide, by decide⟩ ?_
                                    refine V.goto (pc := 179) 185 dX8_findCosts_179 (by decide) ?_
                                    refine V.is (pc := 185) (len := 6188) (hi' := (upR (upR (upR (upR (upR (upR hi 77 f77) 86 f86) 87 f87) 78 f78) 79 f79) 88 (updF g88 (364 * p + v) 0))) (364 * p + v) dX8_findCosts_185 (kS_88) (rfl) (by omega) u1 ?_
                                    refine V.aload_n (pc := 186) 2 dX8_findCosts_186 rfl ?_
                                    refine V.gr (pc := 187) 8 18 89 flX8_44 dX8_findCosts_187 (kS_77) (by decide) (by decide) rfl (kR_77_18) ?_
                                    refine V.iload_n (pc := 190) 5 dX8_findCosts_190 rfl ?_
                                    refine V.iload (pc := 191) 6 dX8_findCosts_191 rfl ?_
                                    refine V.callS (pc := 193) (e1 := eX8_at) 2 [vI ((p : Nat) : Int), vI ((v : Nat) : Int)] [vR 89] mfX8_at slX8_at mlX8_175 dX8_findCosts_193 rfl rfl (Nat.le_of_ble_eq_true rfl) ⟨by decide, by decide, by decide, by decide⟩ ?_
                                    refine c_X8_at KW (upR (upR (upR (upR (upR (upR hi 77 f77) 86 f86) 87 f87) 78 f78) 79 f79) 88 (updF g88 (364 * p + v) 0)) (upR hl 89 g89) p v (by omega) (by omega) _ ?_
                                    refine V.qI (pc := 193) rfl rfl ?_
                                    refine V.iload (pc := 196) 0 dX8_findCosts_196 rfl ?_
                                    refine V.if_eq (pc := 198) 205 dX8_findCosts_198 (by decide) (fun hc => by exact absurd hc (by decide)) (fun h198 => ?_)
                                    refine V.lconst (pc := 201) (z := 1) dX8_findCosts_201 (by decide +kernel) ⟨by decide, by decide⟩ ?_
                                    refine V.goto (pc := 202) 206 dX8_findCosts_202 (by decide) ?_
                                    refine V.js (pc := 206) (len := 6188) (hl' := (upR hl 89 (updF g89 (364 * p + v) 1))) (364 * p + v) dX8_findCosts_206 (kS_89) (rfl) (by omega) u1 ?_
                                    refine V.iinc (pc := 207) (r := ((v + 1 : Nat) : Int)) 6 dX8_findCosts_207 rfl (w32_of (by omega) (by omega) (by omega)) (by decide) (ls' := [(4, vI ((v + 1 : Nat) : Int)), (5, vI 1), (6, vI (encM (te σ (he σ p)))), (0, vR 77), (1, vI L), (2, vI z), (3, vI ((p : Nat) : Int))]) rfl ?_
                                    refine V.goto (pc := 210) 71 dX8_findCosts_210 (by decide) ?_
                                    refine V.locs [3, 4, 5, 6, 0] (ls' := [(0, vR 77), (1, vI L), (2, vI z), (3, vI ((p : Nat) : Int)), (4, vI ((v + 1 : Nat) : Int))]) rfl ?_
                                    exact ih71 (v + 1) (updF g88 (364 * p + v) 0) (updF g89 (364 * p + v) 1) (by omega) (RIp_t hR2 (by omega) hfit) (by omega)
                      · have hb1 : (decide (p < 16) || canF σ L) = true := by rw [b2i_T (fun q => h86 (hz.trans q)), Bool.or_true]
                        refine V.iconst (pc := 89) (z := 1) dX8_findCosts_89 rfl ⟨by decide, by decide⟩ ?_
                        refine V.goto (pc := 90) 94 dX8_findCosts_90 (by decide) ?_
                        refine V.istore (pc := 94) (i := 5) dX8_findCosts_94 (by decide) (ls' := [(5, vI 1), (0, vR 77), (1, vI L), (2, vI z), (3, vI ((p : Nat) : Int)), (4, vI ((v : Nat) : Int))]) rfl ?_
                        refine V.iload_n (pc := 96) 4 dX8_findCosts_96 rfl ?_
                        refine V.aload_n (pc := 97) 1 dX8_findCosts_97 rfl ?_
                        refine V.gi (pc := 98) 8 8 ((nn σ : Nat) : Int) flX8_138 dX8_findCosts_98 (kS_77) (by decide) (by decide) rfl ((hgd 8 (by decide) (by decide) (by decide)).trans hC.2.2.2.1) ?_
                        refine V.icmp_ge (pc := 101) 163 dX8_findCosts_101 (by decide) (fun h101 => ?_) (fun h101 => ?_)
                        · have hnl : ¬ (p < nn σ ∧ heardF σ p = true ∧ lstF σ (heardF σ) p = true) := fun q => by omega
                          have hfit : fitB σ (heardF σ) L (canF σ L) p v = true := by unfold fitB; rw [if_neg hnl]; exact hb1
                          refine V.aload_n (pc := 163) 1 dX8_findCosts_163 rfl ?_
                          refine V.gr (pc := 164) 8 17 88 flX8_41 dX8_findCosts_164 (kS_77) (by decide) (by decide) rfl (kR_77_17) ?_
                          refine V.iload_n (pc := 167) 4 dX8_findCosts_167 rfl ?_
                          refine V.iload (pc := 168) 5 dX8_findCosts_168 rfl ?_
                          refine V.callS (pc := 170) (e1 := eX8_at) 2 [vI ((p : Nat) : Int), vI ((v : Nat) : Int)] [vR 88] mfX8_at slX8_at mlX8_175 dX8_findCosts_170 rfl rfl (Nat.le_of_ble_eq_true rfl) ⟨by decide, by decide, by decide, by decide⟩ ?_
                          refine c_X8_at KW (upR (upR (upR (upR (upR (upR hi 77 f77) 86 f86) 87 f87) 78 f78) 79 f79) 88 g88) (upR hl 89 g89) p v (by omega) (by omega) _ ?_
                          refine V.qI (pc := 170) rfl rfl ?_
                          refine V.iload (pc := 173) 0 dX8_findCosts_173 rfl ?_
                          refine V.if_eq (pc := 175) 182 dX8_findCosts_175 (by decide) (fun hc => by exact absurd hc (by decide)) (fun h175 => ?_)
                          refine V.iconst (pc := 178) (z := 0) dX8_findCosts_178 rfl ⟨by decide, by decide⟩ ?_
                          refine V.goto (pc := 179) 185 dX8_findCosts_179 (by decide) ?_
                          refine V.is (pc := 185) (len := 6188) (hi' := (upR (upR (upR (upR (upR (upR hi 77 f77) 86 f86) 87 f87) 78 f78) 79 f79) 88 (updF g88 (364 * p + v) 0))) (364 * p + v) dX8_findCosts_185 (kS_88) (rfl) (by omega) u1 ?_
                          refine V.aload_n (pc := 186) 1 dX8_findCosts_186 rfl ?_
                          refine V.gr (pc := 187) 8 18 89 flX8_44 dX8_findCosts_187 (kS_77) (by decide) (by decide) rfl (kR_77_18) ?_
                          refine V.iload_n (pc := 190) 4 dX8_findCosts_190 rfl ?_
                          refine V.iload (pc := 191) 5 dX8_findCosts_191 rfl ?_
                          refine V.callS (pc := 193) (e1 := eX8_at) 2 [vI ((p : Nat) : Int), vI ((v : Nat) : Int)] [vR 89] mfX8_at slX8_at mlX8_175 dX8_findCosts_193 rfl rfl (Nat.le_of_ble_eq_true rfl) ⟨by decide, by decide, by decide, by decide⟩ ?_
                          refine c_X8_at KW (upR (upR (upR (upR (upR (upR hi 77 f77) 86 f86) 87 f87) 78 f78) 79 f79) 88 (updF g88 (364 * p + v) 0)) (upR hl 89 g89) p v (by omega) (by omega) _ ?_
                          refine V.qI (pc := 193) rfl rfl ?_
                          refine V.iload (pc := 196) 0 dX8_findCosts_196 rfl ?_
                          refine V.if_eq (pc := 198) 205 dX8_findCosts_198 (by decide) (fun hc => by exact absurd hc (by decide)) (fun h198 => ?_)
                          refine V.lconst (pc := 201) (z := 1) dX8_findCosts_201 (by decide +kernel) ⟨by decide, by decide⟩ ?_
                          refine V.goto (pc := 202) 206 dX8_findCosts_202 (by decide) ?_
                          refine V.js (pc := 206) (len := 6188) (hl' := (upR hl 89 (updF g89 (364 * p + v) 1))) (364 * p + v) dX8_findCosts_206 (kS_89) (rfl) (by omega) u1 ?_
                          refine V.iinc (pc := 207) (r := ((v + 1 : Nat) : Int)) 5 dX8_findCosts_207 rfl (w32_of (by omega) (by omega) (by omega)) (by decide) (ls' := [(4, vI ((v + 1 : Nat) : Int)), (5, vI 1), (0, vR 77), (1, vI L), (2, vI z), (3, vI ((p : Nat) : Int))]) rfl ?_
                          refine V.goto (pc := 210) 71 dX8_findCosts_210 (by decide) ?_
                          refine V.locs [2, 3, 4, 5, 0] (ls' := [(0, vR 77), (1, vI L), (2, vI z), (3, vI ((p : Nat) : Int)), (4, vI ((v + 1 : Nat) : Int))]) rfl ?_
                          exact ih71 (v + 1) (updF g88 (364 * p + v) 0) (updF g89 (364 * p + v) 1) (by omega) (RIp_t hR2 (by omega) hfit) (by omega)
                        · skip
                          refine V.aload_n (pc := 104) 1 dX8_findCosts_104 rfl ?_
                          refine V.gr (pc := 105) 8 16 87 flX8_37 dX8_findCosts_105 (kS_77) (by decide) (by decide) rfl (kR_77_16) ?_
                          refine V.iload_n (pc := 108) 4 dX8_findCosts_108 rfl ?_
                          refine V.za (pc := 109) (len := 16) p (b2i (heardF σ p)) dX8_findCosts_109 (kS_87) (rfl) (by omega) (hgW.2.2.1 p (by omega)) ?_
                          refine V.if_eq (pc := 110) 163 dX8_findCosts_110 (by decide) (fun h110 => ?_) (fun h110 => ?_)
                          · have hnl : ¬ (p < nn σ ∧ heardF σ p = true ∧ lstF σ (heardF σ) p = true) := fun q => by rw [q.2.1] at h110; exact absurd h110 (by decide)
                            have hfit : fitB σ (heardF σ) L (canF σ L) p v = true := by unfold fitB; rw [if_neg hnl]; exact hb1
                            refine V.aload_n (pc := 163) 1 dX8_findCosts_163 rfl ?_
                            refine V.gr (pc := 164) 8 17 88 flX8_41 dX8_findCosts_164 (kS_77) (by decide) (by decide) rfl (kR_77_17) ?_
                            refine V.iload_n (pc := 167) 4 dX8_findCosts_167 rfl ?_
                            refine V.iload (pc := 168) 5 dX8_findCosts_168 rfl ?_
                            refine V.callS (pc := 170) (e1 := eX8_at) 2 [vI ((p : Nat) : Int), vI ((v : Nat) : Int)] [vR 88] mfX8_at slX8_at mlX8_175 dX8_findCosts_170 rfl rfl (Nat.le_of_ble_eq_true rfl) ⟨by decide, by decide, by decide, by decide⟩ ?_
                            refine c_X8_at KW (upR (upR (upR (upR (upR (upR hi 77 f77) 86 f86) 87 f87) 78 f78) 79 f79) 88 g88) (upR hl 89 g89) p v (by omega) (by omega) _ ?_
                            refine V.qI (pc := 170) rfl rfl ?_
                            refine V.iload (pc := 173) 0 dX8_findCosts_173 rfl ?_
                            refine V.if_eq (pc := 175) 182 dX8_findCosts_175 (by decide) (fun hc => by exact absurd hc (by decide)) (fun h175 => ?_)
                            refine V.iconst (pc := 178) (z := 0) dX8_findCosts_178 rfl ⟨by decide, by decide⟩ ?_
                            refine V.goto (pc := 179) 185 dX8_findCosts_179 (by decide) ?_
                            refine V.is (pc := 185) (len := 6188) (hi' := (upR (upR (upR (upR (upR (upR hi 77 f77) 86 f86) 87 f87) 78 f78) 79 f79) 88 (updF g88 (364 * p + v) 0))) (364 * p + v) dX8_findCosts_185 (kS_88) (rfl) (by omega) u1 ?_
                            refine V.aload_n (pc := 186) 1 dX8_findCosts_186 rfl ?_
                            refine V.gr (pc := 187) 8 18 89 flX8_44 dX8_findCosts_187 (kS_77) (by decide) (by decide) rfl (kR_77_18) ?_
                            refine V.iload_n (pc := 190) 4 dX8_findCosts_190 rfl ?_
                            refine V.iload (pc := 191) 5 dX8_findCosts_191 rfl ?_
                            refine V.callS (pc := 193) (e1 := eX8_at) 2 [vI ((p : Nat) : Int), vI ((v : Nat) : Int)] [vR 89] mfX8_at slX8_at mlX8_175 dX8_findCosts_193 rfl rfl (Nat.le_of_ble_eq_true rfl) ⟨by decide, by decide, by decide, by decide⟩ ?_
                            refine c_X8_at KW (upR (upR (upR (upR (upR (upR hi 77 f77) 86 f86) 87 f87) 78 f78) 79 f79) 88 (updF g88 (364 * p + v) 0)) (upR hl 89 g89) p v (by omega) (by omega) _ ?_
                            refine V.qI (pc := 193) rfl rfl ?_
                            refine V.iload (pc := 196) 0 dX8_findCosts_196 rfl ?_
                            refine V.if_eq (pc := 198) 205 dX8_findCosts_198 (by decide) (fun hc => by exact absurd hc (by decide)) (fun h198 => ?_)
                            refine V.lconst (pc := 201) (z := 1) dX8_findCosts_201 (by decide +kernel) ⟨by decide, by decide⟩ ?_
                            refine V.goto (pc := 202) 206 dX8_findCosts_202 (by decide) ?_
                            refine V.js (pc := 206) (len := 6188) (hl' := (upR hl 89 (updF g89 (364 * p + v) 1))) (364 * p + v) dX8_findCosts_206 (kS_89) (rfl) (by omega) u1 ?_
                            refine V.iinc (pc := 207) (r := ((v + 1 : Nat) : Int)) 5 dX8_findCosts_207 rfl (w32_of (by omega) (by omega) (by omega)) (by decide) (ls' := [(4, vI ((v + 1 : Nat) : Int)), (5, vI 1), (0, vR 77), (1, vI L), (2, vI z), (3, vI ((p : Nat) : Int))]) rfl ?_
                            refine V.goto (pc := 210) 71 dX8_findCosts_210 (by decide) ?_
                            refine V.locs [2, 3, 4, 5, 0] (ls' := [(0, vR 77), (1, vI L), (2, vI z), (3, vI ((p : Nat) : Int)), (4, vI ((v + 1 : Nat) : Int))]) rfl ?_
                            exact ih71 (v + 1) (updF g88 (364 * p + v) 0) (updF g89 (364 * p + v) 1) (by omega) (RIp_t hR2 (by omega) hfit) (by omega)
                          · skip
                            refine V.aload_n (pc := 113) 1 dX8_findCosts_113 rfl ?_
                            refine V.iload_n (pc := 114) 4 dX8_findCosts_114 rfl ?_
                            refine V.callV (pc := 115) (e1 := eX8_isLast) (o := 77) (c := 8) 1 [vI ((p : Nat) : Int)] [] mfX8_isLast slX8_isLast mlX8_178 dX8_findCosts_115 (kS_77) (by decide) rfl rfl rfl (Nat.le_of_ble_eq_true rfl) ⟨by decide, by decide, by decide, by decide⟩ ?_
                            refine c_X8_isLast (upR (upR (upR (upR (upR (upR hi 77 f77) 86 f86) 87 f87) 78 f78) 79 f79) 88 g88) (upR hl 89 g89) σ (MR_up hC ((hgd 8 (by decide) (by decide) (by decide))) ((hgd 9 (by decide) (by decide) (by decide))) ((hgd 11 (by decide) (by decide) (by decide))) rfl rfl rfl rfl rfl) (heardF σ) (fun j hj => hgW.2.2.1 j hj) p (by omega) _ ?_
                            refine V.qI (pc := 115) rfl rfl ?_
                            refine V.if_eq (pc := 118) 163 dX8_findCosts_118 (by decide) (fun h118 => ?_) (fun h118 => ?_)
                            · have hnl : ¬ (p < nn σ ∧ heardF σ p = true ∧ lstF σ (heardF σ) p = true) := fun q => by rw [q.2.2] at h118; exact absurd h118 (by decide)
                              have hfit : fitB σ (heardF σ) L (canF σ L) p v = true := by unfold fitB; rw [if_neg hnl]; exact hb1
                              refine V.aload_n (pc := 163) 1 dX8_findCosts_163 rfl ?_
                              refine V.gr (pc := 164) 8 17 88 flX8_41 dX8_findCosts_164 (kS_77) (by decide) (by decide) rfl (kR_77_17) ?_
                              refine V.iload_n (pc := 167) 4 dX8_findCosts_167 rfl ?_
                              refine V.iload (pc := 168) 5 dX8_findCosts_168 rfl ?_
                              refine V.callS (pc := 170) (e1 := eX8_at) 2 [vI ((p : Nat) : Int), vI ((v : Nat) : Int)] [vR 88] mfX8_at slX8_at mlX8_175 dX8_findCosts_170 rfl rfl (Nat.le_of_ble_eq_true rfl) ⟨by decide, by decide, by decide, by decide⟩ ?_
                              refine c_X8_at KW (upR (upR (upR (upR (upR (upR hi 77 f77) 86 f86) 87 f87) 78 f78) 79 f79) 88 g88) (upR hl 89 g89) p v (by omega) (by omega) _ ?_
                              refine V.qI (pc := 170) rfl rfl ?_
                              refine V.iload (pc := 173) 0 dX8_findCosts_173 rfl ?_
                              refine V.if_eq (pc := 175) 182 dX8_findCosts_175 (by decide) (fun hc => by exact absurd hc (by decide)) (fun h175 => ?_)
                              refine V.iconst (pc := 178) (z := 0) dX8_findCosts_178 rfl ⟨by decide, by decide⟩ ?_
                              refine V.goto (pc := 179) 185 dX8_findCosts_179 (by decide) ?_
                              refine V.is (pc := 185) (len := 6188) (hi' := (upR (upR (upR (upR (upR (upR hi 77 f77) 86 f86) 87 f87) 78 f78) 79 f79) 88 (updF g88 (364 * p + v) 0))) (364 * p + v) dX8_findCosts_185 (kS_88) (rfl) (by omega) u1 ?_
                              refine V.aload_n (pc := 186) 1 dX8_findCosts_186 rfl ?_
                              refine V.gr (pc := 187) 8 18 89 flX8_44 dX8_findCosts_187 (kS_77) (by decide) (by decide) rfl (kR_77_18) ?_
                              refine V.iload_n (pc := 190) 4 dX8_findCosts_190 rfl ?_
                              refine V.iload (pc := 191) 5 dX8_findCosts_191 rfl ?_
                              refine V.callS (pc := 193) (e1 := eX8_at) 2 [vI ((p : Nat) : Int), vI ((v : Nat) : Int)] [vR 89] mfX8_at slX8_at mlX8_175 dX8_findCosts_193 rfl rfl (Nat.le_of_ble_eq_true rfl) ⟨by decide, by decide, by decide, by decide⟩ ?_
                              refine c_X8_at KW (upR (upR (upR (upR (upR (upR hi 77 f77) 86 f86) 87 f87) 78 f78) 79 f79) 88 (updF g88 (364 * p + v) 0)) (upR hl 89 g89) p v (by omega) (by omega) _ ?_
                              refine V.qI (pc := 193) rfl rfl ?_
                              refine V.iload (pc := 196) 0 dX8_findCosts_196 rfl ?_
                              refine V.if_eq (pc := 198) 205 dX8_findCosts_198 (by decide) (fun hc => by exact absurd hc (by decide)) (fun h198 => ?_)
                              refine V.lconst (pc := 201) (z := 1) dX8_findCosts_201 (by decide +kernel) ⟨by decide, by decide⟩ ?_
                              refine V.goto (pc := 202) 206 dX8_findCosts_202 (by decide) ?_
                              refine V.js (pc := 206) (len := 6188) (hl' := (upR hl 89 (updF g89 (364 * p + v) 1))) (364 * p + v) dX8_findCosts_206 (kS_89) (rfl) (by omega) u1 ?_
                              refine V.iinc (pc := 207) (r := ((v + 1 : Nat) : Int)) 5 dX8_findCosts_207 rfl (w32_of (by omega) (by omega) (by omega)) (by decide) (ls' := [(4, vI ((v + 1 : Nat) : Int)), (5, vI 1), (0, vR 77), (1, vI L), (2, vI z), (3, vI ((p : Nat) : Int))]) rfl ?_
                              refine V.goto (pc := 210) 71 dX8_findCosts_210 (by decide) ?_
                              refine V.locs [2, 3, 4, 5, 0] (ls' := [(0, vR 77), (1, vI L), (2, vI z), (3, vI ((p : Nat) : Int)), (4, vI ((v + 1 : Nat) : Int))]) rfl ?_
                              exact ih71 (v + 1) (updF g88 (364 * p + v) 0) (updF g89 (364 * p + v) 1) (by omega) (RIp_t hR2 (by omega) hfit) (by omega)
                            · have hyl : (p < nn σ ∧ heardF σ p = true ∧ lstF σ (heardF σ) p = true) := ⟨by omega, b2i_T h110, b2i_T h118⟩
                              have hpp := hwf.2.2.2.1 p (by omega)
                              have hCp := hC.2.2.2.2.1 p (by omega)
                              refine V.aload_n (pc := 121) 1 dX8_findCosts_121 rfl ?_
                              refine V.gr (pc := 122) 8 10 84 flX8_28 dX8_findCosts_122 (kS_77) (by decide) (by decide) rfl (kR_77_10) ?_
                              refine V.aload_n (pc := 125) 1 dX8_findCosts_125 rfl ?_
                              refine V.gr (pc := 126) 8 6 82 flX8_22 dX8_findCosts_126 (kS_77) (by decide) (by decide) rfl (kR_77_6) ?_
                              refine V.iload_n (pc := 129) 4 dX8_findCosts_129 rfl ?_
                              refine V.ia (pc := 130) (len := 16) p ((he σ p : Nat) : Int) dX8_findCosts_130 (kS_82) (rfl) (by omega) (hCp.2.1) ?_
                              refine V.ia (pc := 131) (len := 6) (he σ p) (encM (te σ (he σ p))) dX8_findCosts_131 (kS_84) (rfl) (by omega) (hC.2.2.1 _ (by omega)) ?_
                              refine V.istore (pc := 132) (i := 6) dX8_findCosts_132 (by decide) (ls' := [(6, vI (encM (te σ (he σ p)))), (5, vI 1), (0, vR 77), (1, vI L), (2, vI z), (3, vI ((p : Nat) : Int)), (4, vI ((v : Nat) : Int))]) rfl ?_
                              refine V.iload (pc := 134) 0 dX8_findCosts_134 rfl ?_
                              refine V.if_lt (pc := 136) 156 dX8_findCosts_136 (by decide) (fun h136 => ?_) (fun h136 => ?_)
                              · have hfit : fitB σ (heardF σ) L (canF σ L) p v = true := by unfold fitB; rw [if_pos hyl]; exact decide_eq_true (Or.inl (encM_none.mp (by omega)))
                                refine V.iconst (pc := 156) (z := 1) dX8_findCosts_156 rfl ⟨by decide, by decide⟩ ?_
                                refine V.goto (pc := 157) 161 dX8_findCosts_157 (by decide) ?_
                                refine V.istore (pc := 161) (i := 5) dX8_findCosts_161 (by decide) (ls' := [(5, vI 1), (6, vI (encM (te σ (he σ p)))), (0, vR 77), (1, vI L), (2, vI z), (3, vI ((p : Nat) : Int)), (4, vI ((v : Nat) : Int))]) rfl ?_
                                refine V.aload_n (pc := 163) 2 dX8_findCosts_163 rfl ?_
                                refine V.gr (pc := 164) 8 17 88 flX8_41 dX8_findCosts_164 (kS_77) (by decide) (by decide) rfl (kR_77_17) ?_
                                refine V.iload_n (pc := 167) 5 dX8_findCosts_167 rfl ?_
                                refine V.iload (pc := 168) 6 dX8_findCosts_168 rfl ?_
                                refine V.callS (pc := 170) (e1 := eX8_at) 2 [vI ((p : Nat) : Int), vI ((v : Nat) : Int)] [vR 88] mfX8_at slX8_at mlX8_175 dX8_findCosts_170 rfl rfl (Nat.le_of_ble_eq_true rfl) ⟨by decide, by decide, by decide, by decide⟩ ?_
                                refine c_X8_at KW (upR (upR (upR (upR (upR (upR hi 77 f77) 86 f86) 87 f87) 78 f78) 79 f79) 88 g88) (upR hl 89 g89) p v (by omega) (by omega) _ ?_
                                refine V.qI (pc := 170) rfl rfl ?_
                                refine V.iload (pc := 173) 0 dX8_findCosts_173 rfl ?_
                                refine V.if_eq (pc := 175) 182 dX8_findCosts_175 (by decide) (fun hc => by exact absurd hc (by decide)) (fun h175 => ?_)
                                refine V.iconst (pc := 178) (z := 0) dX8_findCosts_178 rfl ⟨by decide, by decide⟩ ?_
                                refine V.goto (pc := 179) 185 dX8_findCosts_179 (by decide) ?_
                                refine V.is (pc := 185) (len := 6188) (hi' := (upR (upR (upR (upR (upR (upR hi 77 f77) 86 f86) 87 f87) 78 f78) 79 f79) 88 (updF g88 (364 * p + v) 0))) (364 * p + v) dX8_findCosts_185 (kS_88) (rfl) (by omega) u1 ?_
                                refine V.aload_n (pc := 186) 2 dX8_findCosts_186 rfl ?_
                                refine V.gr (pc := 187) 8 18 89 flX8_44 dX8_findCosts_187 (kS_77) (by decide) (by decide) rfl (kR_77_18) ?_
                                refine V.iload_n (pc := 190) 5 dX8_findCosts_190 rfl ?_
                                refine V.iload (pc := 191) 6 dX8_findCosts_191 rfl ?_
                                refine V.callS (pc := 193) (e1 := eX8_at) 2 [vI ((p : Nat) : Int), vI ((v : Nat) : Int)] [vR 89] mfX8_at slX8_at mlX8_175 dX8_findCosts_193 rfl rfl (Nat.le_of_ble_eq_true rfl) ⟨by decide, by decide, by decide, by decide⟩ ?_
                                refine c_X8_at KW (upR (upR (upR (upR (upR (upR hi 77 f77) 86 f86) 87 f87) 78 f78) 79 f79) 88 (updF g88 (364 * p + v) 0)) (upR hl 89 g89) p v (by omega) (by omega) _ ?_
                                refine V.qI (pc := 193) rfl rfl ?_
                                refine V.iload (pc := 196) 0 dX8_findCosts_196 rfl ?_
                                refine V.if_eq (pc := 198) 205 dX8_findCosts_198 (by decide) (fun hc => by exact absurd hc (by decide)) (fun h198 => ?_)
                                refine V.lconst (pc := 201) (z := 1) dX8_findCosts_201 (by decide +kernel) ⟨by decide, by decide⟩ ?_
                                refine V.goto (pc := 202) 206 dX8_findCosts_202 (by decide) ?_
                                refine V.js (pc := 206) (len := 6188) (hl' := (upR hl 89 (updF g89 (364 * p + v) 1))) (364 * p + v) dX8_findCosts_206 (kS_89) (rfl) (by omega) u1 ?_
                                refine V.iinc (pc := 207) (r := ((v + 1 : Nat) : Int)) 6 dX8_findCosts_207 rfl (w32_of (by omega) (by omega) (by omega)) (by decide) (ls' := [(4, vI ((v + 1 : Nat) : Int)), (5, vI 1), (6, vI (encM (te σ (he σ p)))), (0, vR 77), (1, vI L), (2, vI z), (3, vI ((p : Nat) : Int))]) rfl ?_
                                refine V.goto (pc := 210) 71 dX8_findCosts_210 (by decide) ?_
                                refine V.locs [3, 4, 5, 6, 0] (ls' := [(0, vR 77), (1, vI L), (2, vI z), (3, vI ((p : Nat) : Int)), (4, vI ((v + 1 : Nat) : Int))]) rfl ?_
                                exact ih71 (v + 1) (updF g88 (364 * p + v) 0) (updF g89 (364 * p + v) 1) (by omega) (RIp_t hR2 (by omega) hfit) (by omega)
                              · skip
                                refine V.aload_n (pc := 139) 2 dX8_findCosts_139 rfl ?_
                                refine V.gr (pc := 140) 8 6 82 flX8_22 dX8_findCosts_140 (kS_77) (by decide) (by decide) rfl (kR_77_6) ?_
                                refine V.iload_n (pc := 143) 5 dX8_findCosts_143 rfl ?_
                                refine V.ia (pc := 144) (len := 16) p ((he σ p : Nat) : Int) dX8_findCosts_144 (kS_82) (rfl) (by omega) (hCp.2.1) ?_
                                refine V.iload_n (pc := 145) 3 dX8_findCosts_145 rfl ?_
                                refine V.icmp_eq (pc := 146) 156 dX8_findCosts_146 (by decide) (fun h146 => ?_) (fun h146 => ?_)
                                · have hfit : fitB σ (heardF σ) L (canF σ L) p v = true := by unfold fitB; rw [if_pos hyl]; exact decide_eq_true (Or.inr (Or.inl (by omega)))
                                  refine V.iconst (pc := 156) (z := 1) dX8_findCosts_156 rfl ⟨by decide, by decide⟩ ?_
                                  refine V.goto (pc := 157) 161 dX8_findCosts_157 (by decide) ?_
                                  refine V.istore (pc := 161) (i := 5) dX8_findCosts_161 (by decide) (ls' := [(5, vI 1), (6, vI (encM (te σ (he σ p)))), (0, vR 77), (1, vI L), (2, vI z), (3, vI ((p : Nat) : Int)), (4, vI ((v : Nat) : Int))]) rfl ?_
                                  refine V.aload_n (pc := 163) 2 dX8_findCosts_163 rfl ?_
                                  refine V.gr (pc := 164) 8 17 88 flX8_41 dX8_findCosts_164 (kS_77) (by decide) (by decide) rfl (kR_77_17) ?_
                                  refine V.iload_n (pc := 167) 5 dX8_findCosts_167 rfl ?_
                                  refine V.iload (pc := 168) 6 dX8_findCosts_168 rfl ?_
                                  refine V.callS (pc := 170) (e1 := eX8_at) 2 [vI ((p : Nat) : Int), vI ((v : Nat) : Int)] [vR 88] mfX8_at slX8_at mlX8_175 dX8_findCosts_170 rfl rfl (Nat.le_of_ble_eq_true rfl) ⟨by decide, by decide, by decide, by decide⟩ ?_
                                  refine c_X8_at KW (upR (upR (upR (upR (upR (upR hi 77 f77) 86 f86) 87 f87) 78 f78) 79 f79) 88 g88) (upR hl 89 g89) p v (by omega) (by omega) _ ?_
                                  refine V.qI (pc := 170) rfl rfl ?_
                                  refine V.iload (pc := 173) 0 dX8_findCosts_173 rfl ?_
                                  refine V.if_eq (pc := 175) 182 dX8_findCosts_175 (by decide) (fun hc => by exact absurd hc (by decide)) (fun h175 => ?_)
                                  refine V.iconst (pc := 178) (z := 0) dX8_findCosts_178 rfl ⟨by decide, by decide⟩ ?_
                                  refine V.goto (pc := 179) 185 dX8_findCosts_179 (by decide) ?_
                                  refine V.is (pc := 185) (len := 6188) (hi' := (upR (upR (upR (upR (upR (upR hi 77 f77) 86 f86) 87 f87) 78 f78) 79 f79) 88 (updF g88 (364 * p + v) 0))) (364 * p + v) dX8_findCosts_185 (kS_88) (rfl) (by omega) u1 ?_
                                  refine V.aload_n (pc := 186) 2 dX8_findCosts_186 rfl ?_
                                  refine V.gr (pc := 187) 8 18 89 flX8_44 dX8_findCosts_187 (kS_77) (by decide) (by decide) rfl (kR_77_18) ?_
                                  refine V.iload_n (pc := 190) 5 dX8_findCosts_190 rfl ?_
                                  refine V.iload (pc := 191) 6 dX8_findCosts_191 rfl ?_
                                  refine V.callS (pc := 193) (e1 := eX8_at) 2 [vI ((p : Nat) : Int), vI ((v : Nat) : Int)] [vR 89] mfX8_at slX8_at mlX8_175 dX8_findCosts_193 rfl rfl (Nat.le_of_ble_eq_true rfl) ⟨by decide, by decide, by decide, by decide⟩ ?_
                                  refine c_X8_at KW (upR (upR (upR (upR (upR (upR hi 77 f77) 86 f86) 87 f87) 78 f78) 79 f79) 88 (updF g88 (364 * p + v) 0)) (upR hl 89 g89) p v (by omega) (by omega) _ ?_
                                  refine V.qI (pc := 193) rfl rfl ?_
                                  refine V.iload (pc := 196) 0 dX8_findCosts_196 rfl ?_
                                  refine V.if_eq (pc := 198) 205 dX8_findCosts_198 (by decide) (fun hc => by exact absurd hc (by decide)) (fun h198 => ?_)
                                  refine V.lconst (pc := 201) (z := 1) dX8_findCosts_201 (by decide +kernel) ⟨by decide, by decide⟩ ?_
                                  refine V.goto (pc := 202) 206 dX8_findCosts_202 (by decide) ?_
                                  refine V.js (pc := 206) (len := 6188) (hl' := (upR hl 89 (updF g89 (364 * p + v) 1))) (364 * p + v) dX8_findCosts_206 (kS_89) (rfl) (by omega) u1 ?_
                                  refine V.iinc (pc := 207) (r := ((v + 1 : Nat) : Int)) 6 dX8_findCosts_207 rfl (w32_of (by omega) (by omega) (by omega)) (by decide) (ls' := [(4, vI ((v + 1 : Nat) : Int)), (5, vI 1), (6, vI (encM (te σ (he σ p)))), (0, vR 77), (1, vI L), (2, vI z), (3, vI ((p : Nat) : Int))]) rfl ?_
                                  refine V.goto (pc := 210) 71 dX8_findCosts_210 (by decide) ?_
                                  refine V.locs [3, 4, 5, 6, 0] (ls' := [(0, vR 77), (1, vI L), (2, vI z), (3, vI ((p : Nat) : Int)), (4, vI ((v + 1 : Nat) : Int))]) rfl ?_
                                  exact ih71 (v + 1) (updF g88 (364 * p + v) 0) (updF g89 (364 * p + v) 1) (by omega) (RIp_t hR2 (by omega) hfit) (by omega)
                                · skip
                                  refine V.iload (pc := 149) 0 dX8_findCosts_149 rfl ?_
                                  refine V.iload (pc := 151) 6 dX8_findCosts_151 rfl ?_
                                  refine V.icmp_ne (pc := 153) 160 dX8_findCosts_153 (by decide) (fun h153 => ?_) (fun h153 => ?_)
                                  · have hfit : fitB σ (heardF σ) L (canF σ L) p v = false := by unfold fitB; rw [if_pos hyl]; exact decide_eq_false (fun q => by rcases q with q | q | q; { rw [q] at h136; exact h136 (by decide) }; { omega }; { exact absurd (encM_v.mpr q) (by omega) })
                                    refine V.iconst (pc := 160) (z := 0) dX8_findCosts_160 rfl ⟨by decide, by decide⟩ ?_
                                    refine V.istore (pc := 161) (i := 5) dX8_findCosts_161 (by decide) (ls' := [(5, vI 0), (6, vI (encM (te σ (he σ p)))), (0, vR 77), (1, vI L), (2, vI z), (3, vI ((p : Nat) : Int)), (4, vI ((v : Nat) : Int))]) rfl ?_
                                    refine V.aload_n (pc := 163) 2 dX8_findCosts_163 rfl ?_
                                    refine V.gr (pc := 164) 8 17 88 flX8_41 dX8_findCosts_164 (kS_77) (by decide) (by decide) rfl (kR_77_17) ?_
                                    refine V.iload_n (pc := 167) 5 dX8_findCosts_167 rfl ?_
                                    refine V.iload (pc := 168) 6 dX8_findCosts_168 rfl ?_
                                    refine V.callS (pc := 170) (e1 := eX8_at) 2 [vI ((p : Nat) : Int), vI ((v : Nat) : Int)] [vR 88] mfX8_at slX8_at mlX8_175 dX8_findCosts_170 rfl rfl (Nat.le_of_ble_eq_true rfl) ⟨by decide, by decide, by decide, by decide⟩ ?_
                                    refine c_X8_at KW (upR (upR (upR (upR (upR (upR hi 77 f77) 86 f86) 87 f87) 78 f78) 79 f79) 88 g88) (upR hl 89 g89) p v (by omega) (by omega) _ ?_
                                    refine V.qI (pc := 170) rfl rfl ?_
                                    refine V.iload (pc := 173) 0 dX8_findCosts_173 rfl ?_
                                    refine V.if_eq (pc := 175) 182 dX8_findCosts_175 (by decide) (fun h175 => ?_) (fun hc => by exact absurd hc (by decide))
                                    refine V.sipush (pc := 182) (z := 1000) dX8_findCosts_182 (by decide +kernel) ⟨by decide, by decide⟩ ?_
                                    refine V.is (pc := 185) (len := 6188) (hi' := (upR (upR (upR (upR (upR (upR hi 77 f77) 86 f86) 87 f87) 78 f78) 79 f79) 88 (updF g88 (364 * p + v) 1000))) (364 * p + v) dX8_findCosts_185 (kS_88) (rfl) (by omega) u1 ?_
                                    refine V.aload_n (pc := 186) 2 dX8_findCosts_186 rfl ?_
                                    refine V.gr (pc := 187) 8 18 89 flX8_44 dX8_findCosts_187 (kS_77) (by decide) (by decide) rfl (kR_77_18) ?_
                                    refine V.iload_n (pc := 190) 5 dX8_findCosts_190 rfl ?_
                                    refine V.iload (pc := 191) 6 dX8_findCosts_191 rfl ?_
                                    refine V.callS (pc := 193) (e1 := eX8_at) 2 [vI ((p : Nat) : Int), vI ((v : Nat) : Int)] [vR 89] mfX8_at slX8_at mlX8_175 dX8_findCosts_193 rfl rfl (Nat.le_of_ble_eq_true rfl) ⟨by decide, by decide, by decide, by decide⟩ ?_
                                    refine c_X8_at KW (upR (upR (upR (upR (upR (upR hi 77 f77) 86 f86) 87 f87) 78 f78) 79 f79) 88 (updF g88 (364 * p + v) 1000)) (upR hl 89 g89) p v (by omega) (by omega) _ ?_
                                    refine V.qI (pc := 193) rfl rfl ?_
                                    refine V.iload (pc := 196) 0 dX8_findCosts_196 rfl ?_
                                    refine V.if_eq (pc := 198) 205 dX8_findCosts_198 (by decide) (fun h198 => ?_) (fun hc => by exact absurd hc (by decide))
                                    refine V.lconst (pc := 205) (z := 0) dX8_findCosts_205 (by decide +kernel) ⟨by decide, by decide⟩ ?_
                                    refine V.js (pc := 206) (len := 6188) (hl' := (upR hl 89 (updF g89 (364 * p + v) 0))) (364 * p + v) dX8_findCosts_206 (kS_89) (rfl) (by omega) u1 ?_
                                    refine V.iinc (pc := 207) (r := ((v + 1 : Nat) : Int)) 6 dX8_findCosts_207 rfl (w32_of (by omega) (by omega) (by omega)) (by decide) (ls' := [(4, vI ((v + 1 : Nat) : Int)), (5, vI 0), (6, vI (encM (te σ (he σ p)))), (0, vR 77), (1, vI L), (2, vI z), (3, vI ((p : Nat) : Int))]) rfl ?_
                                    refine V.goto (pc := 210) 71 dX8_findCosts_210 (by decide) ?_
                                    refine V.locs [3, 4, 5, 6, 0] (ls' := [(0, vR 77), (1, vI L), (2, vI z), (3, vI ((p : Nat) : Int)), (4, vI ((v + 1 : Nat) : Int))]) rfl ?_
                                    exact ih71 (v + 1) (updF g88 (364 * p + v) 1000) (updF g89 (364 * p + v) 0) (by omega) (RIp_f hR2 (by omega) hfit) (by omega)
                                  · have hfit : fitB σ (heardF σ) L (canF σ L) p v = true := by unfold fitB; rw [if_pos hyl]; exact decide_eq_true (Or.inr (Or.inr (encM_v.mp (by omega))))
                                    refine V.iconst (pc := 156) (z := 1) dX8_findCosts_156 rfl ⟨by decide, by decide⟩ ?_
                                    refine V.goto (pc := 157) 161 dX8_findCosts_157 (by decide) ?_
                                    refine V.istore (pc := 161) (i := 5) dX8_findCosts_161 (by decide) (ls' := [(5, vI 1), (6, vI (encM (te σ (he σ p)))), (0, vR 77), (1, vI L), (2, vI z), (3, vI ((p : Nat) : Int)), (4, vI ((v : Nat) : Int))]) rfl ?_
                                    refine V.aload_n (pc := 163) 2 dX8_findCosts_163 rfl ?_
                                    refine V.gr (pc := 164) 8 17 88 flX8_41 dX8_findCosts_164 (kS_77) (by decide) (by decide) rfl (kR_77_17) ?_
                                    refine V.iload_n (pc := 167) 5 dX8_findCosts_167 rfl ?_
                                    refine V.iload (pc := 168) 6 dX8_findCosts_168 rfl ?_
                                    refine V.callS (pc := 170) (e1 := eX8_at) 2 [vI ((p : Nat) : Int), vI ((v : Nat) : Int)] [vR 88] mfX8_at slX8_at mlX8_175 dX8_findCosts_170 rfl rfl (Nat.le_of_ble_eq_true rfl) ⟨by decide, by decide, by decide, by decide⟩ ?_
                                    refine c_X8_at KW (upR (upR (upR (upR (upR (upR hi 77 f77) 86 f86) 87 f87) 78 f78) 79 f79) 88 g88) (upR hl 89 g89) p v (by omega) (by omega) _ ?_
                                    refine V.qI (pc := 170) rfl rfl ?_
                                    refine V.iload (pc := 173) 0 dX8_findCosts_173 rfl ?_
                                    refine V.if_eq (pc := 175) 182 dX8_findCosts_175 (by decide) (fun hc => by exact absurd hc (by decide)) (fun h175 => ?_)
                                    refine V.iconst (pc := 178) (z := 0) dX8_findCosts_178 rfl ⟨by decide, by decide⟩ ?_
                                    refine V.goto (pc := 179) 185 dX8_findCosts_179 (by decide) ?_
                                    refine V.is (pc := 185) (len := 6188) (hi' := (upR (upR (upR (upR (upR (upR hi 77 f77) 86 f86) 87 f87) 78 f78) 79 f79) 88 (updF g88 (364 * p + v) 0))) (364 * p + v) dX8_findCosts_185 (kS_88) (rfl) (by omega) u1 ?_
                                    refine V.aload_n (pc := 186) 2 dX8_findCosts_186 rfl ?_
                                    refine V.gr (pc := 187) 8 18 89 flX8_44 dX8_findCosts_187 (kS_77) (by decide) (by decide) rfl (kR_77_18) ?_
                                    refine V.iload_n (pc := 190) 5 dX8_findCosts_190 rfl ?_
                                    refine V.iload (pc := 191) 6 dX8_findCosts_191 rfl ?_
                                    refine V.callS (pc := 193) (e1 := eX8_at) 2 [vI ((p : Nat) : Int), vI ((v : Nat) : Int)] [vR 89] mfX8_at slX8_at mlX8_175 dX8_findCosts_193 rfl rfl (Nat.le_of_ble_eq_true rfl) ⟨by decide, by decide, by decide, by decide⟩ ?_
                                    refine c_X8_at KW (upR (upR (upR (upR (upR (upR hi 77 f77) 86 f86) 87 f87) 78 f78) 79 f79) 88 (updF g88 (364 * p + v) 0)) (upR hl 89 g89) p v (by omega) (by omega) _ ?_
                                    refine V.qI (pc := 193) rfl rfl ?_
                                    refine V.iload (pc := 196) 0 dX8_findCosts_196 rfl ?_
                                    refine V.if_eq (pc := 198) 205 dX8_findCosts_198 (by decide) (fun hc => by exact absurd hc (by decide)) (fun h198 => ?_)
                                    refine V.lconst (pc := 201) (z := 1) dX8_findCosts_201 (by decide +kernel) ⟨by decide, by decide⟩ ?_
                                    refine V.goto (pc := 202) 206 dX8_findCosts_202 (by decide) ?_
                                    refine V.js (pc := 206) (len := 6188) (hl' := (upR hl 89 (updF g89 (364 * p + v) 1))) (364 * p + v) dX8_findCosts_206 (kS_89) (rfl) (by omega) u1 ?_
                                    refine V.iinc (pc := 207) (r := ((v + 1 : Nat) : Int)) 6 dX8_findCosts_207 rfl (w32_of (by omega) (by omega) (by omega)) (by decide) (ls' := [(4, vI ((v + 1 : Nat) : Int)), (5, vI 1), (6, vI (encM (te σ (he σ p)))), (0, vR 77), (1, vI L), (2, vI z), (3, vI ((p : Nat) : Int))]) rfl ?_
                                    refine V.goto (pc := 210) 71 dX8_findCosts_210 (by decide) ?_
                                    refine V.locs [3, 4, 5, 6, 0] (ls' := [(0, vR 77), (1, vI L), (2, vI z), (3, vI ((p : Nat) : Int)), (4, vI ((v + 1 : Nat) : Int))]) rfl ?_
                                    exact ih71 (v + 1) (updF g88 (364 * p + v) 0) (updF g89 (364 * p + v) 1) (by omega) (RIp_t hR2 (by omega) hfit) (by omega)
              refine V.locs [1, 2, 3, 4, 0] (ls' := [(0, vR 77), (1, vI L), (2, vI z), (3, vI ((p : Nat) : Int)), (4, vI 0)]) rfl ?_
              exact lp71 _ 0 f88 f89 (by omega) (hR) (Nat.lt_succ_self _)
        refine V.locs [1, 2, 3, 0] (ls' := [(0, vR 77), (1, vI L), (2, vI z), (3, vI 0)]) rfl ?_
        exact lp62 _ 0 (hi 88) (hl 89) (by omega) (fun q hq u hu hd => by omega) (Nat.lt_succ_self _)
      · skip
        refine V.iload_n (pc := 21) 2 dX8_findCosts_21 rfl ?_
        refine V.if_eq (pc := 22) 52 dX8_findCosts_22 (by decide) (fun h22 => ?_) (fun h22 => ?_)
        · have hzf : (canG σ L (wD σ).1 b) = false := by cases hh : (canG σ L (wD σ).1 b) with | false => rfl | true => rw [hh] at hz; exact absurd (hz.symm.trans (by omega)) (by decide)
          refine V.iconst (pc := 52) (z := 0) dX8_findCosts_52 rfl ⟨by decide, by decide⟩ ?_
          refine V.istore_n (pc := 53) (i := 2) dX8_findCosts_53 rfl (by decide) (ls' := [(2, vI 0), (0, vR 77), (1, vI L), (3, vI ((b : Nat) : Int))]) rfl ?_
          refine V.iinc (pc := 54) (r := ((b + 1 : Nat) : Int)) 3 dX8_findCosts_54 rfl (w32_of (by omega) (by omega) (by omega)) (by decide) (ls' := [(3, vI ((b + 1 : Nat) : Int)), (2, vI 0), (0, vR 77), (1, vI L)]) rfl ?_
          refine V.goto (pc := 57) 15 dX8_findCosts_57 (by decide) ?_
          refine V.locs [2, 3, 1, 0] (ls' := [(0, vR 77), (1, vI L), (2, vI 0), (3, vI ((b + 1 : Nat) : Int))]) rfl ?_
          exact ih15 (b + 1) 0 (by omega) (by rw [canG_s, hzf]; rfl) (by omega)
        · have hzt : (canG σ L (wD σ).1 b) = true := by cases hh : (canG σ L (wD σ).1 b) with | true => rfl | false => rw [hh] at hz; exact absurd hz h22
          refine V.aload_n (pc := 25) 0 dX8_findCosts_25 rfl ?_
          refine V.gr (pc := 26) 8 10 84 flX8_28 dX8_findCosts_26 (kS_77) (by decide) (by decide) rfl (kR_77_10) ?_
          refine V.iload_n (pc := 29) 3 dX8_findCosts_29 rfl ?_
          refine V.ia (pc := 30) (len := 6) b (encM (te σ b)) dX8_findCosts_30 (kS_84) (rfl) (by omega) (hC.2.2.1 b (by omega)) ?_
          refine V.if_lt (pc := 31) 48 dX8_findCosts_31 (by decide) (fun h31 => ?_) (fun h31 => ?_)
          · have htn := encM_none.mp (show encM (te σ b) < 0 by omega)
            refine V.iconst (pc := 48) (z := 1) dX8_findCosts_48 rfl ⟨by decide, by decide⟩ ?_
            refine V.goto (pc := 49) 53 dX8_findCosts_49 (by decide) ?_
            refine V.istore_n (pc := 53) (i := 2) dX8_findCosts_53 rfl (by decide) (ls' := [(2, vI 1), (0, vR 77), (1, vI L), (3, vI ((b : Nat) : Int))]) rfl ?_
            refine V.iinc (pc := 54) (r := ((b + 1 : Nat) : Int)) 3 dX8_findCosts_54 rfl (w32_of (by omega) (by omega) (by omega)) (by decide) (ls' := [(3, vI ((b + 1 : Nat) : Int)), (2, vI 1), (0, vR 77), (1, vI L)]) rfl ?_
            refine V.goto (pc := 57) 15 dX8_findCosts_57 (by decide) ?_
            refine V.locs [2, 3, 1, 0] (ls' := [(0, vR 77), (1, vI L), (2, vI 1), (3, vI ((b + 1 : Nat) : Int))]) rfl ?_
            exact ih15 (b + 1) 1 (by omega) (by rw [canG_s, hzt, decide_eq_true (Or.inl htn)]; rfl) (by omega)
          · have htn : ¬ te σ b = none := fun q => by rw [q] at h31; exact h31 (by decide)
            refine V.iload_n (pc := 34) 3 dX8_findCosts_34 rfl ?_
            refine V.iload_n (pc := 35) 1 dX8_findCosts_35 rfl ?_
            refine V.icmp_eq (pc := 36) 48 dX8_findCosts_36 (by decide) (fun h36 => ?_) (fun h36 => ?_)
            · skip
              refine V.iconst (pc := 48) (z := 1) dX8_findCosts_48 rfl ⟨by decide, by decide⟩ ?_
              refine V.goto (pc := 49) 53 dX8_findCosts_49 (by decide) ?_
              refine V.istore_n (pc := 53) (i := 2) dX8_findCosts_53 rfl (by decide) (ls' := [(2, vI 1), (0, vR 77), (1, vI L), (3, vI ((b : Nat) : Int))]) rfl ?_
              refine V.iinc (pc := 54) (r := ((b + 1 : Nat) : Int)) 3 dX8_findCosts_54 rfl (w32_of (by omega) (by omega) (by omega)) (by decide) (ls' := [(3, vI ((b + 1 : Nat) : Int)), (2, vI 1), (0, vR 77), (1, vI L)]) rfl ?_
              refine V.goto (pc := 57) 15 dX8_findCosts_57 (by decide) ?_
              refine V.locs [2, 3, 1, 0] (ls' := [(0, vR 77), (1, vI L), (2, vI 1), (3, vI ((b + 1 : Nat) : Int))]) rfl ?_
              exact ih15 (b + 1) 1 (by omega) (by rw [canG_s, hzt, decide_eq_true (Or.inr (by omega))]; rfl) (by omega)
            · skip
              refine V.aload_n (pc := 39) 0 dX8_findCosts_39 rfl ?_
              refine V.gr (pc := 40) 8 14 86 flX8_34 dX8_findCosts_40 (kS_77) (by decide) (by decide) rfl (kR_77_14) ?_
              refine V.iload_n (pc := 43) 3 dX8_findCosts_43 rfl ?_
              refine V.ia (pc := 44) (len := 6) b (encM ((wD σ).1 b)) dX8_findCosts_44 (kS_86) (rfl) (by omega) (hgW.2.1 b (by omega)) ?_
              refine V.if_lt (pc := 45) 52 dX8_findCosts_45 (by decide) (fun h45 => ?_) (fun h45 => ?_)
              · have hks : ((wD σ).1 b).isSome = false := by rw [encM_none.mp (show encM ((wD σ).1 b) < 0 by omega)]; rfl
                refine V.iconst (pc := 52) (z := 0) dX8_findCosts_52 rfl ⟨by decide, by decide⟩ ?_
                refine V.istore_n (pc := 53) (i := 2) dX8_findCosts_53 rfl (by decide) (ls' := [(2, vI 0), (0, vR 77), (1, vI L), (3, vI ((b : Nat) : Int))]) rfl ?_
                refine V.iinc (pc := 54) (r := ((b + 1 : Nat) : Int)) 3 dX8_findCosts_54 rfl (w32_of (by omega) (by omega) (by omega)) (by decide) (ls' := [(3, vI ((b + 1 : Nat) : Int)), (2, vI 0), (0, vR 77), (1, vI L)]) rfl ?_
                refine V.goto (pc := 57) 15 dX8_findCosts_57 (by decide) ?_
                refine V.locs [2, 3, 1, 0] (ls' := [(0, vR 77), (1, vI L), (2, vI 0), (3, vI ((b + 1 : Nat) : Int))]) rfl ?_
                exact ih15 (b + 1) 0 (by omega) (by rw [canG_s, decide_eq_false (fun q => by rcases q with q | q; { exact htn q }; { omega }), hks, Bool.or_false, Bool.and_false]; rfl) (by omega)
              · have hks : ((wD σ).1 b).isSome = true := by obtain ⟨v, hv⟩ := encM_s (show 0 ≤ encM ((wD σ).1 b) by omega); rw [hv]; rfl
                refine V.iconst (pc := 48) (z := 1) dX8_findCosts_48 rfl ⟨by decide, by decide⟩ ?_
                refine V.goto (pc := 49) 53 dX8_findCosts_49 (by decide) ?_
                refine V.istore_n (pc := 53) (i := 2) dX8_findCosts_53 rfl (by decide) (ls' := [(2, vI 1), (0, vR 77), (1, vI L), (3, vI ((b : Nat) : Int))]) rfl ?_
                refine V.iinc (pc := 54) (r := ((b + 1 : Nat) : Int)) 3 dX8_findCosts_54 rfl (w32_of (by omega) (by omega) (by omega)) (by decide) (ls' := [(3, vI ((b + 1 : Nat) : Int)), (2, vI 1), (0, vR 77), (1, vI L)]) rfl ?_
                refine V.goto (pc := 57) 15 dX8_findCosts_57 (by decide) ?_
                refine V.locs [2, 3, 1, 0] (ls' := [(0, vR 77), (1, vI L), (2, vI 1), (3, vI ((b + 1 : Nat) : Int))]) rfl ?_
                exact ih15 (b + 1) 1 (by omega) (by rw [canG_s, hzt, hks, Bool.or_true]; rfl) (by omega)
  refine V.locs [2, 3, 1, 0] (ls' := [(0, vR 77), (1, vI L), (2, vI 1), (3, vI 0)]) rfl ?_
  exact lp15 _ 0 1 (by omega) (rfl) (Nat.lt_succ_self _)

