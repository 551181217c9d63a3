set_option maxRecDepth 100000 in
theorem c_X8_at (K : KK) (hi hl : HI) (p v : Nat) (hp : p ≤ 16) (hv : v < 364) (Q : QT) (hq : Q (some (vI ((364 * p + v : Nat) : Int))) K hi hl) : Con eX8_at [vI (p : Nat), vI (v : Nat)] K hi hl Q := by
  refine Con.ofV (by decide +kernel) (Nat.le_of_ble_eq_true rfl) ?_
  show V eX8_at none K 0 [(0, vI ((p : Nat) : Int)), (1, vI ((v : Nat) : Int))] [] hi hl 0 0 Q
  refine V.sipush (pc := 0) (z := 364) dX8_at_0 (by decide +kernel) ⟨by decide, by decide⟩ ?_
  refine V.iload_n (pc := 3) 0 dX8_at_3 rfl ?_
  refine V.imul (pc := 4) (((364 * p : Nat) : Int)) dX8_at_4 (mulN (a := 364) (b := p) (by omega)) ?_
  refine V.iload_n (pc := 5) 1 dX8_at_5 rfl ?_
  refine V.iadd (pc := 6) ((((364 * p + v) : Nat) : Int)) dX8_at_6 (addN (a := 364 * p) (b := v) (by omega)) ?_
  refine V.iret (pc := 7) (z := (((364 * p + v) : Nat) : Int)) dX8_at_7 rfl ?_
  exact hq

set_option maxRecDepth 100000 in
theorem c_X8_sourceOf (hi hl : HI) (σ : SG) (hC : MR hi σ) (H : Nat → Bool) (hH : ∀ j, j < nn σ → hi 87 j = b2i (H j)) (p : Nat) (hp : p < nn σ) (Q : QT) (hq : Q (some (vI (srcF σ H p : Nat))) KW hi hl) : Con eX8_sourceOf [vR 77, vI (p : Nat)] KW hi hl Q := by
  refine Con.ofV (by decide +kernel) (Nat.le_of_ble_eq_true rfl) ?_
  show V eX8_sourceOf none KW 0 [(0, vR 77), (1, vI ((p : Nat) : Int))] [] hi hl 0 0 Q
  have hwf := hC.1
  have hn16 := hwf.2.2.1
  have hCp := hC.2.2.2.2.1 p hp
  refine V.iload_n (pc := 0) 1 dX8_sourceOf_0 rfl ?_
  refine V.iconst (pc := 1) (z := 1) dX8_sourceOf_1 rfl ⟨by decide, by decide⟩ ?_
  refine V.isub (pc := 2) ((((p : Nat) : Int) - 1)) dX8_sourceOf_2 (w32_of (by omega) (by omega) (by omega)) ?_
  refine V.istore_n (pc := 3) (i := 2) dX8_sourceOf_3 rfl (by decide) (ls' := [(2, vI (((p : Nat) : Int) - 1)), (0, vR 77), (1, vI ((p : Nat) : Int))]) rfl ?_
  have lp4 : ∀ (fu4 : Nat) (k : Nat), (k ≤ p) → (srcG σ H (sp' σ p) k = srcG σ H (sp' σ p) p) → k < fu4 → V eX8_sourceOf none KW 4 [(0, vR 77), (1, vI ((p : Nat) : Int)), (2, vI ((k : Int) - 1))] [] hi hl 0 0 Q := by
    intro fu4
    induction fu4 with
    | zero => intro k hk h1 hm4; exact absurd hm4 (Nat.not_lt_zero _)
    | succ fu4 ih4 =>
      intro k hk h1 hm4
      refine V.iload_n (pc := 4) 2 dX8_sourceOf_4 rfl ?_
      refine V.if_lt (pc := 5) 51 dX8_sourceOf_5 (by decide) (fun h5 => ?_) (fun h5 => ?_)
      · have hk0 : k = 0 := by omega
        refine V.bipush (pc := 51) (z := 16) dX8_sourceOf_51 (by decide +kernel) ⟨by decide, by decide⟩ ?_
        refine V.iret (pc := 53) (z := 16) dX8_sourceOf_53 rfl ?_
        have e : srcF σ H p = 16 := by
          unfold srcF
          by_cases q6 : sp' σ p = 6
          · rw [if_pos q6]
          · rw [if_neg q6, ← h1]
            first
            | (have hk0 : k = 0 := by omega
               rw [hk0]; rfl)
            | (exfalso; omega)
        rw [e] at hq
        exact hq
      · have hk1 : 1 ≤ k := by omega
        refine V.aload_n (pc := 8) 0 dX8_sourceOf_8 rfl ?_
        refine V.gr (pc := 9) 8 5 81 flX8_19 dX8_sourceOf_9 (kS_77) (by decide) (by decide) rfl (kR_77_5) ?_
        refine V.iload_n (pc := 12) 1 dX8_sourceOf_12 rfl ?_
        refine V.ia (pc := 13) (len := 16) p ((sp' σ p : Nat) : Int) dX8_sourceOf_13 (kS_81) (rfl) (by omega) (hCp.1) ?_
        refine V.bipush (pc := 14) (z := 6) dX8_sourceOf_14 (by decide +kernel) ⟨by decide, by decide⟩ ?_
        refine V.icmp_eq (pc := 16) 51 dX8_sourceOf_16 (by decide) (fun h16 => ?_) (fun h16 => ?_)
        · skip
          refine V.bipush (pc := 51) (z := 16) dX8_sourceOf_51 (by decide +kernel) ⟨by decide, by decide⟩ ?_
          refine V.iret (pc := 53) (z := 16) dX8_sourceOf_53 rfl ?_
          have e : srcF σ H p = 16 := by
            unfold srcF
            by_cases q6 : sp' σ p = 6
            · rw [if_pos q6]
            · rw [if_neg q6, ← h1]
              first
              | (have hk0 : k = 0 := by omega
                 rw [hk0]; rfl)
              | (exfalso; omega)
          rw [e] at hq
          exact hq
        · skip
          refine V.aload_n (pc := 19) 0 dX8_sourceOf_19 rfl ?_
          refine V.gr (pc := 20) 8 16 87 flX8_37 dX8_sourceOf_20 (kS_77) (by decide) (by decide) rfl (kR_77_16) ?_
          refine V.iload_n (pc := 23) 2 dX8_sourceOf_23 rfl ?_
          refine V.za (pc := 24) (len := 16) (k - 1) (b2i (H (k - 1))) dX8_sourceOf_24 (kS_87) (by omega) (by omega) (hH _ (by omega)) ?_
          refine V.if_eq (pc := 25) 45 dX8_sourceOf_25 (by decide) (fun h25 => ?_) (fun h25 => ?_)
          · have hng : ¬ (H (k - 1) = true ∧ he σ (k - 1) = sp' σ p) := fun q => by rw [q.1] at h25; exact absurd h25 (by decide)
            refine V.iinc (pc := 45) (r := (((k - 1 : Nat) : Int) - 1)) 2 dX8_sourceOf_45 rfl (w32_of (by omega) (by omega) (by omega)) (by decide) (ls' := [(2, vI (((k - 1 : Nat) : Int) - 1)), (0, vR 77), (1, vI ((p : Nat) : Int))]) rfl ?_
            refine V.goto (pc := 48) 4 dX8_sourceOf_48 (by decide) ?_
            refine V.locs [1, 2, 0] (ls' := [(0, vR 77), (1, vI ((p : Nat) : Int)), (2, vI (((k - 1 : Nat) : Int) - 1))]) rfl ?_
            have hkk : k = (k - 1) + 1 := by omega
            exact ih4 (k - 1) (by omega) (by rw [← h1, show srcG σ H (sp' σ p) k = srcG σ H (sp' σ p) ((k - 1) + 1) by rw [← hkk], srcG_s, if_neg hng]) (by omega)
          · skip
            refine V.aload_n (pc := 28) 0 dX8_sourceOf_28 rfl ?_
            refine V.gr (pc := 29) 8 6 82 flX8_22 dX8_sourceOf_29 (kS_77) (by decide) (by decide) rfl (kR_77_6) ?_
            refine V.iload_n (pc := 32) 2 dX8_sourceOf_32 rfl ?_
            refine V.ia (pc := 33) (len := 16) (k - 1) ((he σ (k - 1) : Nat) : Int) dX8_sourceOf_33 (kS_82) (by omega) (by omega) ((hC.2.2.2.2.1 (k - 1) (by omega)).2.1) ?_
            refine V.aload_n (pc := 34) 0 dX8_sourceOf_34 rfl ?_
            refine V.gr (pc := 35) 8 5 81 flX8_19 dX8_sourceOf_35 (kS_77) (by decide) (by decide) rfl (kR_77_5) ?_
            refine V.iload_n (pc := 38) 1 dX8_sourceOf_38 rfl ?_
            refine V.ia (pc := 39) (len := 16) p ((sp' σ p : Nat) : Int) dX8_sourceOf_39 (kS_81) (rfl) (by omega) (hCp.1) ?_
            refine V.icmp_ne (pc := 40) 45 dX8_sourceOf_40 (by decide) (fun h40 => ?_) (fun h40 => ?_)
            · have hng : ¬ (H (k - 1) = true ∧ he σ (k - 1) = sp' σ p) := fun q => by omega
              refine V.iinc (pc := 45) (r := (((k - 1 : Nat) : Int) - 1)) 2 dX8_sourceOf_45 rfl (w32_of (by omega) (by omega) (by omega)) (by decide) (ls' := [(2, vI (((k - 1 : Nat) : Int) - 1)), (0, vR 77), (1, vI ((p : Nat) : Int))]) rfl ?_
              refine V.goto (pc := 48) 4 dX8_sourceOf_48 (by decide) ?_
              refine V.locs [1, 2, 0] (ls' := [(0, vR 77), (1, vI ((p : Nat) : Int)), (2, vI (((k - 1 : Nat) : Int) - 1))]) rfl ?_
              have hkk : k = (k - 1) + 1 := by omega
              exact ih4 (k - 1) (by omega) (by rw [← h1, show srcG σ H (sp' σ p) k = srcG σ H (sp' σ p) ((k - 1) + 1) by rw [← hkk], srcG_s, if_neg hng]) (by omega)
            · skip
              refine V.iload_n (pc := 43) 2 dX8_sourceOf_43 rfl ?_
              refine V.iret (pc := 44) (z := ((k : Int) - 1)) dX8_sourceOf_44 rfl ?_
              have e : srcF σ H p = k - 1 := by unfold srcF; rw [if_neg (by omega), ← h1, show srcG σ H (sp' σ p) k = srcG σ H (sp' σ p) ((k - 1) + 1) by rw [show k - 1 + 1 = k by omega], srcG_s, if_pos ⟨b2i_T h25, by omega⟩]
              rw [e, show ((k - 1 : Nat) : Int) = (k : Int) - 1 by omega] at hq
              exact hq
  refine V.locs [1, 2, 0] (ls' := [(0, vR 77), (1, vI ((p : Nat) : Int)), (2, vI (((p : Nat) : Int) - 1))]) rfl ?_
  exact lp4 _ p (by omega) (rfl) (Nat.lt_succ_self _)

set_option maxRecDepth 100000 in
theorem c_X8_isLast (hi hl : HI) (σ : SG) (hC : MR hi σ) (H : Nat → Bool) (hH : ∀ j, j < nn σ → hi 87 j = b2i (H j)) (p : Nat) (hp : p < nn σ) (Q : QT) (hq : Q (some (vI (b2i (lstF σ H p)))) KW hi hl) : Con eX8_isLast [vR 77, vI (p : Nat)] KW hi hl Q := by
  refine Con.ofV (by decide +kernel) (Nat.le_of_ble_eq_true rfl) ?_
  show V eX8_isLast none KW 0 [(0, vR 77), (1, vI ((p : Nat) : Int))] [] hi hl 0 0 Q
  have hwf := hC.1
  have hn16 := hwf.2.2.1
  have hCp := hC.2.2.2.2.1 p hp
  refine V.iconst (pc := 0) (z := 1) dX8_isLast_0 rfl ⟨by decide, by decide⟩ ?_
  refine V.istore_n (pc := 1) (i := 2) dX8_isLast_1 rfl (by decide) (ls' := [(2, vI 1), (0, vR 77), (1, vI ((p : Nat) : Int))]) rfl ?_
  refine V.iload_n (pc := 2) 2 dX8_isLast_2 rfl ?_
  refine V.iconst (pc := 3) (z := 1) dX8_isLast_3 rfl ⟨by decide, by decide⟩ ?_
  refine V.iadd (pc := 4) ((((p + 1) : Nat) : Int)) dX8_isLast_4 (addN (a := p) (b := 1) (by omega)) ?_
  refine V.istore_n (pc := 5) (i := 3) dX8_isLast_5 rfl (by decide) (ls' := [(3, vI (((p + 1) : Nat) : Int)), (2, vI 1), (0, vR 77), (1, vI ((p : Nat) : Int))]) rfl ?_
  have lp6 : ∀ (fu6 : Nat) (k : Nat) (z : Int), (p < k ∧ k ≤ nn σ) → (z = b2i (!(anyB (lstB σ H p) k))) → nn σ - k < fu6 → V eX8_isLast none KW 6 [(0, vR 77), (1, vI ((p : Nat) : Int)), (2, vI z), (3, vI ((k : Nat) : Int))] [] hi hl 0 0 Q := by
    intro fu6
    induction fu6 with
    | zero => intro k z hk hz hm6; exact absurd hm6 (Nat.not_lt_zero _)
    | succ fu6 ih6 =>
      intro k z hk hz hm6
      refine V.iload_n (pc := 6) 3 dX8_isLast_6 rfl ?_
      refine V.aload_n (pc := 7) 0 dX8_isLast_7 rfl ?_
      refine V.gi (pc := 8) 8 8 ((nn σ : Nat) : Int) flX8_138 dX8_isLast_8 (kS_77) (by decide) (by decide) rfl (hC.2.2.2.1) ?_
      refine V.icmp_ge (pc := 11) 54 dX8_isLast_11 (by decide) (fun h11 => ?_) (fun h11 => ?_)
      · skip
        refine V.iload_n (pc := 54) 2 dX8_isLast_54 rfl ?_
        refine V.zret (pc := 55) (z := z) dX8_isLast_55 rfl (by rw [hz]; exact b2i_01 _) ?_
        have e : k = nn σ := by omega
        subst hz
        rw [e]
        exact hq
      · skip
        refine V.iload_n (pc := 14) 2 dX8_isLast_14 rfl ?_
        refine V.if_eq (pc := 15) 46 dX8_isLast_15 (by decide) (fun h15 => ?_) (fun h15 => ?_)
        · have hzt : anyB (lstB σ H p) k = true := by cases hh : anyB (lstB σ H p) k with | true => rfl | false => rw [hh] at hz; exact absurd (hz.symm.trans (by omega)) (by decide)
          refine V.iconst (pc := 46) (z := 0) dX8_isLast_46 rfl ⟨by decide, by decide⟩ ?_
          refine V.istore_n (pc := 47) (i := 2) dX8_isLast_47 rfl (by decide) (ls' := [(2, vI 0), (0, vR 77), (1, vI ((p : Nat) : Int)), (3, vI ((k : Nat) : Int))]) rfl ?_
          refine V.iinc (pc := 48) (r := ((k + 1 : Nat) : Int)) 3 dX8_isLast_48 rfl (w32_of (by omega) (by omega) (by omega)) (by decide) (ls' := [(3, vI ((k + 1 : Nat) : Int)), (2, vI 0), (0, vR 77), (1, vI ((p : Nat) : Int))]) rfl ?_
          refine V.goto (pc := 51) 6 dX8_isLast_51 (by decide) ?_
          refine V.locs [2, 3, 1, 0] (ls' := [(0, vR 77), (1, vI ((p : Nat) : Int)), (2, vI 0), (3, vI ((k + 1 : Nat) : Int))]) rfl ?_
          exact ih6 (k + 1) 0 (by omega) (by rw [show anyB (lstB σ H p) (k + 1) = (anyB (lstB σ H p) k || lstB σ H p k) from rfl, hzt, Bool.true_or]; rfl) (by omega)
        · have hzf : anyB (lstB σ H p) k = false := by cases hh : anyB (lstB σ H p) k with | false => rfl | true => rw [hh] at hz; exact absurd hz h15
          refine V.aload_n (pc := 18) 0 dX8_isLast_18 rfl ?_
          refine V.gr (pc := 19) 8 16 87 flX8_37 dX8_isLast_19 (kS_77) (by decide) (by decide) rfl (kR_77_16) ?_
          refine V.iload_n (pc := 22) 3 dX8_isLast_22 rfl ?_
          refine V.za (pc := 23) (len := 16) k (b2i (H k)) dX8_isLast_23 (kS_87) (rfl) (by omega) (hH _ (by omega)) ?_
          refine V.if_eq (pc := 24) 42 dX8_isLast_24 (by decide) (fun h24 => ?_) (fun h24 => ?_)
          · skip
            refine V.iconst (pc := 42) (z := 1) dX8_isLast_42 rfl ⟨by decide, by decide⟩ ?_
            refine V.goto (pc := 43) 47 dX8_isLast_43 (by decide) ?_
            refine V.istore_n (pc := 47) (i := 2) dX8_isLast_47 rfl (by decide) (ls' := [(2, vI 1), (0, vR 77), (1, vI ((p : Nat) : Int)), (3, vI ((k : Nat) : Int))]) rfl ?_
            refine V.iinc (pc := 48) (r := ((k + 1 : Nat) : Int)) 3 dX8_isLast_48 rfl (w32_of (by omega) (by omega) (by omega)) (by decide) (ls' := [(3, vI ((k + 1 : Nat) : Int)), (2, vI 1), (0, vR 77), (1, vI ((p : Nat) : Int))]) rfl ?_
            refine V.goto (pc := 51) 6 dX8_isLast_51 (by decide) ?_
            refine V.locs [2, 3, 1, 0] (ls' := [(0, vR 77), (1, vI ((p : Nat) : Int)), (2, vI 1), (3, vI ((k + 1 : Nat) : Int))]) rfl ?_
            exact ih6 (k + 1) 1 (by omega) (by rw [show anyB (lstB σ H p) (k + 1) = (anyB (lstB σ H p) k || lstB σ H p k) from rfl, hzf, show lstB σ H p k = false by unfold lstB; rw [b2i_F h24, Bool.and_false]; rfl]; rfl) (by omega)
          · skip
            refine V.aload_n (pc := 27) 0 dX8_isLast_27 rfl ?_
            refine V.gr (pc := 28) 8 6 82 flX8_22 dX8_isLast_28 (kS_77) (by decide) (by decide) rfl (kR_77_6) ?_
            refine V.iload_n (pc := 31) 3 dX8_isLast_31 rfl ?_
            refine V.ia (pc := 32) (len := 16) k ((he σ k : Nat) : Int) dX8_isLast_32 (kS_82) (rfl) (by omega) ((hC.2.2.2.2.1 k (by omega)).2.1) ?_
            refine V.aload_n (pc := 33) 0 dX8_isLast_33 rfl ?_
            refine V.gr (pc := 34) 8 6 82 flX8_22 dX8_isLast_34 (kS_77) (by decide) (by decide) rfl (kR_77_6) ?_
            refine V.iload_n (pc := 37) 1 dX8_isLast_37 rfl ?_
            refine V.ia (pc := 38) (len := 16) p ((he σ p : Nat) : Int) dX8_isLast_38 (kS_82) (rfl) (by omega) (hCp.2.1) ?_
            refine V.icmp_eq (pc := 39) 46 dX8_isLast_39 (by decide) (fun h39 => ?_) (fun h39 => ?_)
            · skip
              refine V.iconst (pc := 46) (z := 0) dX8_isLast_46 rfl ⟨by decide, by decide⟩ ?_
              refine V.istore_n (pc := 47) (i := 2) dX8_isLast_47 rfl (by decide) (ls' := [(2, vI 0), (0, vR 77), (1, vI ((p : Nat) : Int)), (3, vI ((k : Nat) : Int))]) rfl ?_
              refine V.iinc (pc := 48) (r := ((k + 1 : Nat) : Int)) 3 dX8_isLast_48 rfl (w32_of (by omega) (by omega) (by omega)) (by decide) (ls' := [(3, vI ((k + 1 : Nat) : Int)), (2, vI 0), (0, vR 77), (1, vI ((p : Nat) : Int))]) rfl ?_
              refine V.goto (pc := 51) 6 dX8_isLast_51 (by decide) ?_
              refine V.locs [2, 3, 1, 0] (ls' := [(0, vR 77), (1, vI ((p : Nat) : Int)), (2, vI 0), (3, vI ((k + 1 : Nat) : Int))]) rfl ?_
              exact ih6 (k + 1) 0 (by omega) (by rw [show anyB (lstB σ H p) (k + 1) = (anyB (lstB σ H p) k || lstB σ H p k) from rfl, show lstB σ H p k = true by unfold lstB; rw [b2i_T h24, decide_eq_true (show p < k by omega), decide_eq_true (show he σ k = he σ p by omega)]; rfl, Bool.or_true]; rfl) (by omega)
            · skip
              refine V.iconst (pc := 42) (z := 1) dX8_isLast_42 rfl ⟨by decide, by decide⟩ ?_
              refine V.goto (pc := 43) 47 dX8_isLast_43 (by decide) ?_
              refine V.istore_n (pc := 47) (i := 2) dX8_isLast_47 rfl (by decide) (ls' := [(2, vI 1), (0, vR 77), (1, vI ((p : Nat) : Int)), (3, vI ((k : Nat) : Int))]) rfl ?_
              refine V.iinc (pc := 48) (r := ((k + 1 : Nat) : Int)) 3 dX8_isLast_48 rfl (w32_of (by omega) (by omega) (by omega)) (by decide) (ls' := [(3, vI ((k + 1 : Nat) : Int)), (2, vI 1), (0, vR 77), (1, vI ((p : Nat) : Int))]) rfl ?_
              refine V.goto (pc := 51) 6 dX8_isLast_51 (by decide) ?_
              refine V.locs [2, 3, 1, 0] (ls' := [(0, vR 77), (1, vI ((p : Nat) : Int)), (2, vI 1), (3, vI ((k + 1 : Nat) : Int))]) rfl ?_
              exact ih6 (k + 1) 1 (by omega) (by rw [show anyB (lstB σ H p) (k + 1) = (anyB (lstB σ H p) k || lstB σ H p k) from rfl, hzf, show lstB σ H p k = false by unfold lstB; rw [decide_eq_false (show ¬ he σ k = he σ p by omega), Bool.and_false]]; rfl) (by omega)
  refine V.locs [2, 3, 1, 0] (ls' := [(0, vR 77), (1, vI ((p : Nat) : Int)), (2, vI 1), (3, vI (((p + 1) : Nat) : Int))]) rfl ?_
  exact lp6 _ (p + 1) 1 (by omega) (by rw [anyB_f (fun q hq => by unfold lstB; rw [decide_eq_false (show ¬ p < q by omega)]; rfl)]; rfl) (Nat.lt_succ_self _)

set_option maxRecDepth 100000 in
theorem c_X8_hang (hi hl : HI) (σ : SG) (hC : MR hi σ) (H : Nat → Bool) (hH : ∀ j, j < nn σ → hi 87 j = b2i (H j)) (p : Nat) (hp : p < nn σ) (X : FW) (hX : RW (hi 88) (hl 89) X) (hBd : BdW X) (Q : QT) (hq : ∀ f77 f78 f79 f88 f89 : Nat → Int, (∀ j, j ≠ 1 → j ≠ 3 → f77 j = hi 77 j) → RW f88 f89 (hng X (so σ (he σ p)) p (srcF σ H p)) → Q none KW (upR (upR (upR (upR hi 77 f77) 78 f78) 79 f79) 88 f88) (upR hl 89 f89)) : Con eX8_hang [vR 77, vI (p : Nat)] KW hi hl Q := by
  refine Con.ofV (by decide +kernel) (Nat.le_of_ble_eq_true rfl) ?_
  show V eX8_hang none KW 0 [(0, vR 77), (1, vI ((p : Nat) : Int))] [] hi hl 0 0 Q
  refine V.hieq (hi' := (upR (upR (upR (upR hi 77 (hi 77)) 78 (hi 78)) 79 (hi 79)) 88 (hi 88))) (by rw [upR_id, upR_id, upR_id, upR_id]) ?_
  refine V.hleq (hl' := (upR hl 89 (hl 89))) (by rw [upR_id]) ?_
  have hwf := hC.1
  have hn16 := hwf.2.2.1
  have hpp := hwf.2.2.2.1 p hp
  have hCp := hC.2.2.2.2.1 p hp
  have hso := hwf.1 (he σ p) (by omega)
  obtain ⟨hon, hne⟩ := srcF_b (σ := σ) (H := H) (show p < 16 by omega)
  refine V.aload_n (pc := 0) 0 dX8_hang_0 rfl ?_
  refine V.iload_n (pc := 1) 1 dX8_hang_1 rfl ?_
  refine V.callV (pc := 2) (e1 := eX8_sourceOf) (o := 77) (c := 8) 1 [vI ((p : Nat) : Int)] [] mfX8_sourceOf slX8_sourceOf mlX8_172 dX8_hang_2 (kS_77) (by decide) rfl rfl rfl (Nat.le_of_ble_eq_true rfl) ⟨by decide, by decide, by decide, by decide⟩ ?_
  refine c_X8_sourceOf (upR (upR (upR (upR hi 77 (hi 77)) 78 (hi 78)) 79 (hi 79)) 88 (hi 88)) (upR hl 89 (hl 89)) σ hC H hH p (by omega) _ ?_
  refine V.qI (pc := 2) rfl rfl ?_
  refine V.istore_n (pc := 5) (i := 2) dX8_hang_5 rfl (by decide) (ls' := [(2, vI ((srcF σ H p : Nat) : Int)), (0, vR 77), (1, vI ((p : Nat) : Int))]) rfl ?_
  refine V.iconst (pc := 6) (z := 0) dX8_hang_6 rfl ⟨by decide, by decide⟩ ?_
  refine V.istore_n (pc := 7) (i := 3) dX8_hang_7 rfl (by decide) (ls' := [(3, vI 0), (2, vI ((srcF σ H p : Nat) : Int)), (0, vR 77), (1, vI ((p : Nat) : Int))]) rfl ?_
  have lp8 : ∀ (fu8 : Nat) (v : Nat) (f77 : Nat → Int) (f78 : Nat → Int) (f79 : Nat → Int) (f88 : Nat → Int) (f89 : Nat → Int), (v ≤ 364) → (∀ j, j ≠ 1 → j ≠ 3 → f77 j = hi 77 j) → (RW f88 f89 (hngK X (so σ (he σ p)) p (srcF σ H p) v)) → 364 - v < fu8 → V eX8_hang none KW 8 [(0, vR 77), (1, vI ((p : Nat) : Int)), (2, vI (((srcF σ H p) : Nat) : Int)), (3, vI ((v : Nat) : Int))] [] (upR (upR (upR (upR hi 77 f77) 78 f78) 79 f79) 88 f88) (upR hl 89 f89) 0 0 Q := by
    intro fu8
    induction fu8 with
    | zero => intro v f77 f78 f79 f88 f89 hv hf hR hm8; exact absurd hm8 (Nat.not_lt_zero _)
    | succ fu8 ih8 =>
      intro v f77 f78 f79 f88 f89 hv hf hR hm8
      refine V.iload_n (pc := 8) 3 dX8_hang_8 rfl ?_
      refine V.sipush (pc := 9) (z := 364) dX8_hang_9 (by decide +kernel) ⟨by decide, by decide⟩ ?_
      refine V.icmp_ge (pc := 12) 257 dX8_hang_12 (by decide) (fun h12 => ?_) (fun h12 => ?_)
      · skip
        refine V.vret (pc := 257) dX8_hang_257 rfl ?_
        have e : v = 364 := by omega
        subst e
        exact hq _ _ _ _ _ hf (RW_e hR)
      · have hvl : v < 364 := by omega
        have hRp := hR p (by omega) v hvl
        rw [(hngK_p (Ne.symm hne)).1, (hngK_p (Ne.symm hne)).2] at hRp
        have hRo := hR (srcF σ H p) hon v hvl
        rw [hngK_o.1, hngK_o.2] at hRo
        refine V.aload_n (pc := 15) 0 dX8_hang_15 rfl ?_
        refine V.gr (pc := 16) 8 17 88 flX8_41 dX8_hang_16 (kS_77) (by decide) (by decide) rfl (kR_77_17) ?_
        refine V.iload_n (pc := 19) 1 dX8_hang_19 rfl ?_
        refine V.iload_n (pc := 20) 3 dX8_hang_20 rfl ?_
        refine V.callS (pc := 21) (e1 := eX8_at) 2 [vI ((p : Nat) : Int), vI ((v : Nat) : Int)] [vR 88] mfX8_at slX8_at mlX8_175 dX8_hang_21 rfl rfl (Nat.le_of_ble_eq_true rfl) ⟨by decide, by decide, by decide, by decide⟩ ?_
        refine c_X8_at KW (upR (upR (upR (upR hi 77 f77) 78 f78) 79 f79) 88 f88) (upR hl 89 f89) p v (by omega) (by omega) _ ?_
        refine V.qI (pc := 21) rfl rfl ?_
        refine V.ia (pc := 24) (len := 6188) (364 * p + v) (X.1 p v) dX8_hang_24 (kS_88) (rfl) (by omega) (hRp.1) ?_
        refine V.istore (pc := 25) (i := 4) dX8_hang_25 (by decide) (ls' := [(4, vI (X.1 p v)), (0, vR 77), (1, vI ((p : Nat) : Int)), (2, vI (((srcF σ H p) : Nat) : Int)), (3, vI ((v : Nat) : Int))]) rfl ?_
        refine V.aload_n (pc := 27) 1 dX8_hang_27 rfl ?_
        refine V.gr (pc := 28) 8 18 89 flX8_44 dX8_hang_28 (kS_77) (by decide) (by decide) rfl (kR_77_18) ?_
        refine V.iload_n (pc := 31) 2 dX8_hang_31 rfl ?_
        refine V.iload_n (pc := 32) 4 dX8_hang_32 rfl ?_
        refine V.callS (pc := 33) (e1 := eX8_at) 2 [vI ((p : Nat) : Int), vI ((v : Nat) : Int)] [vR 89] mfX8_at slX8_at mlX8_175 dX8_hang_33 rfl rfl (Nat.le_of_ble_eq_true rfl) ⟨by decide, by decide, by decide, by decide⟩ ?_
        refine c_X8_at KW (upR (upR (upR (upR hi 77 f77) 78 f78) 79 f79) 88 f88) (upR hl 89 f89) p v (by omega) (by omega) _ ?_
        refine V.qI (pc := 33) rfl rfl ?_
        refine V.la (pc := 36) (len := 6188) (364 * p + v) (X.2 p v) dX8_hang_36 (kS_89) (rfl) (by omega) (hRp.2) ?_
        refine V.lstore (pc := 37) (i := 5) dX8_hang_37 (by decide) (ls' := [(5, vL (X.2 p v)), (4, vI (X.1 p v)), (0, vR 77), (1, vI ((p : Nat) : Int)), (2, vI (((srcF σ H p) : Nat) : Int)), (3, vI ((v : Nat) : Int))]) rfl ?_
        refine V.aload_n (pc := 39) 2 dX8_hang_39 rfl ?_
        refine V.aload_n (pc := 40) 2 dX8_hang_40 rfl ?_
        refine V.gr (pc := 41) 8 4 80 flX8_16 dX8_hang_41 (kS_77) (by decide) (by decide) rfl (kR_77_4) ?_
        refine V.aload_n (pc := 44) 2 dX8_hang_44 rfl ?_
        refine V.gr (pc := 45) 8 6 82 flX8_22 dX8_hang_45 (kS_77) (by decide) (by decide) rfl (kR_77_6) ?_
        refine V.iload_n (pc := 48) 3 dX8_hang_48 rfl ?_
        refine V.ia (pc := 49) (len := 16) p ((he σ p : Nat) : Int) dX8_hang_49 (kS_82) (rfl) (by omega) (hCp.2.1) ?_
        refine V.ia (pc := 50) (len := 6) (he σ p) (((so σ (he σ p)) : Nat) : Int) dX8_hang_50 (kS_80) (rfl) (by omega) (hC.2.1 _ (by omega)) ?_
        refine V.iload_n (pc := 51) 5 dX8_hang_51 rfl ?_
        refine V.callV (pc := 52) (e1 := eX8_findSlips) (o := 77) (c := 8) 2 [vI (((so σ (he σ p)) : Nat) : Int), vI ((v : Nat) : Int)] [] mfX8_findSlips slX8_findSlips mlX8_144 dX8_hang_52 (kS_77) (by decide) rfl rfl rfl (Nat.le_of_ble_eq_true rfl) ⟨by decide, by decide, by decide, by decide⟩ ?_
        refine c_X8_findSlips (upR (upR (upR (upR hi 77 f77) 78 f78) 79 f79) 88 f88) (upR hl 89 f89) (so σ (he σ p)) v (by omega) (by omega) _ (fun fs gs gw hs1 hs2 hs3 => ?_)
        have hs1 : ∀ j, j ≠ 1 → j ≠ 3 → fs j = f77 j := hs1
        refine V.qV (pc := 52) rfl rfl ?_
        refine V.hieq (hi' := (upR (upR (upR (upR hi 77 fs) 78 gw) 79 gs) 88 f88)) ((upR_c ((upR_c (rs (by decide) (rs (by decide) (rs (by decide) r1)))).trans (rs (by decide) (rs (by decide) r1)))).trans (rs (by decide) r1)) ?_
        refine V.iconst (pc := 55) (z := 0) dX8_hang_55 rfl ⟨by decide, by decide⟩ ?_
        refine V.istore (pc := 56) (i := 7) dX8_hang_56 (by decide) (ls' := [(7, vI 0), (5, vL (X.2 p v)), (4, vI (X.1 p v)), (0, vR 77), (1, vI ((p : Nat) : Int)), (2, vI (((srcF σ H p) : Nat) : Int)), (3, vI ((v : Nat) : Int))]) rfl ?_
        have lp58 : ∀ (fu58 : Nat) (k : Nat) (best : Int) (many : Int), (k ≤ slN (so σ (he σ p)) v) → (best = (wgs (X.1 p) (X.2 p) (so σ (he σ p)) v k).1) → (many = (wgs (X.1 p) (X.2 p) (so σ (he σ p)) v k).2) → slN (so σ (he σ p)) v - k < fu58 → V eX8_hang none KW 58 [(0, vR 77), (1, vI ((p : Nat) : Int)), (2, vI (((srcF σ H p) : Nat) : Int)), (3, vI ((v : Nat) : Int)), (4, vI best), (5, vL many), (7, vI ((k : Nat) : Int))] [] (upR (upR (upR (upR hi 77 fs) 78 gw) 79 gs) 88 f88) (upR hl 89 f89) 0 0 Q := by
          intro fu58
          induction fu58 with
          | zero => intro k best many hk hb hm hm58; exact absurd hm58 (Nat.not_lt_zero _)
          | succ fu58 ih58 =>
            intro k best many hk hb hm hm58
            have hnl := nth_lt (n := k + 1) hso hvl
            have hcx := hBd p (by omega) _ hnl
            have hwb := wgs_b (n := X.2 p) hso hvl (hBd p (by omega)) k
            have h15 := slN_15 hso hvl
            have hRn := hR p (by omega) (nth (so σ (he σ p)) v (k + 1)) hnl
            rw [(hngK_p (Ne.symm hne)).1, (hngK_p (Ne.symm hne)).2] at hRn
            refine V.iload (pc := 58) 6 dX8_hang_58 rfl ?_
            refine V.aload_n (pc := 60) 0 dX8_hang_60 rfl ?_
            refine V.gi (pc := 61) 8 3 ((slN (so σ (he σ p)) v : Nat) : Int) flX8_90 dX8_hang_61 (kS_77) (by decide) (by decide) rfl (hs2) ?_
            refine V.icmp_ge (pc := 64) 168 dX8_hang_64 (by decide) (fun h64 => ?_) (fun h64 => ?_)
            · have hke : k = slN (so σ (he σ p)) v := by omega
              have ewg : (wgs (X.1 p) (X.2 p) (so σ (he σ p)) v k) = wg (X.1 p) (X.2 p) (so σ (he σ p)) v := by unfold wg; rw [hke]
              rw [ewg] at hb hm
              have hcg := wg_b (n := X.2 p) hso hvl (hBd p (by omega))
              have hco := hBd (srcF σ H p) hon v hvl
              refine V.aload_n (pc := 168) 0 dX8_hang_168 rfl ?_
              refine V.gr (pc := 169) 8 17 88 flX8_41 dX8_hang_169 (kS_77) (by decide) (by decide) rfl (kR_77_17) ?_
              refine V.iload_n (pc := 172) 2 dX8_hang_172 rfl ?_
              refine V.iload_n (pc := 173) 3 dX8_hang_173 rfl ?_
              refine V.callS (pc := 174) (e1 := eX8_at) 2 [vI (((srcF σ H p) : Nat) : Int), vI ((v : Nat) : Int)] [vR 88] mfX8_at slX8_at mlX8_175 dX8_hang_174 rfl rfl (Nat.le_of_ble_eq_true rfl) ⟨by decide, by decide, by decide, by decide⟩ ?_
              refine c_X8_at KW (upR (upR (upR (upR hi 77 fs) 78 gw) 79 gs) 88 f88) (upR hl 89 f89) (srcF σ H p) v (by omega) (by omega) _ ?_
              refine V.qI (pc := 174) rfl rfl ?_
              refine V.aload_n (pc := 177) 0 dX8_hang_177 rfl ?_
              refine V.gr (pc := 178) 8 17 88 flX8_41 dX8_hang_178 (kS_77) (by decide) (by decide) rfl (kR_77_17) ?_
              refine V.iload_n (pc := 181) 2 dX8_hang_181 rfl ?_
              refine V.iload_n (pc := 182) 3 dX8_hang_182 rfl ?_
              refine V.callS (pc := 183) (e1 := eX8_at) 2 [vI (((srcF σ H p) : Nat) : Int), vI ((v : Nat) : Int)] [vR 88, vI (((364 * (srcF σ H p) + v) : Nat) : Int), vR 88] mfX8_at slX8_at mlX8_175 dX8_hang_183 rfl rfl (Nat.le_of_ble_eq_true rfl) ⟨by decide, by decide, by decide, by decide⟩ ?_
              refine c_X8_at KW (upR (upR (upR (upR hi 77 fs) 78 gw) 79 gs) 88 f88) (upR hl 89 f89) (srcF σ H p) v (by omega) (by omega) _ ?_
              refine V.qI (pc := 183) rfl rfl ?_
              refine V.ia (pc := 186) (len := 6188) (364 * (srcF σ H p) + v) (X.1 (srcF σ H p) v) dX8_hang_186 (kS_88) (rfl) (by omega) (hRo.1) ?_
              refine V.iload (pc := 187) 4 dX8_hang_187 rfl ?_
              refine V.iadd (pc := 189) ((X.1 (srcF σ H p) v + best)) dX8_hang_189 (w32_of (by omega) (by omega) (by omega)) ?_
              refine V.sipush (pc := 190) (z := 1000) dX8_hang_190 (by decide +kernel) ⟨by decide, by decide⟩ ?_
              refine V.icmp_ge (pc := 193) 212 dX8_hang_193 (by decide) (fun h193 => ?_) (fun h193 => ?_)
              · have hfc : hgC X (so σ (he σ p)) p (srcF σ H p) v = 1000 := by unfold hgC cap; rw [← hb, if_neg (by omega)]
                refine V.sipush (pc := 212) (z := 1000) dX8_hang_212 (by decide +kernel) ⟨by decide, by decide⟩ ?_
                refine V.is (pc := 215) (len := 6188) (hi' := (upR (upR (upR (upR hi 77 fs) 78 gw) 79 gs) 88 (updF f88 (364 * (srcF σ H p) + v) 1000))) (364 * (srcF σ H p) + v) dX8_hang_215 (kS_88) (rfl) (by omega) u1 ?_
                refine V.aload_n (pc := 216) 0 dX8_hang_216 rfl ?_
                refine V.gr (pc := 217) 8 18 89 flX8_44 dX8_hang_217 (kS_77) (by decide) (by decide) rfl (kR_77_18) ?_
                refine V.iload_n (pc := 220) 2 dX8_hang_220 rfl ?_
                refine V.iload_n (pc := 221) 3 dX8_hang_221 rfl ?_
                refine V.callS (pc := 222) (e1 := eX8_at) 2 [vI (((srcF σ H p) : Nat) : Int), vI ((v : Nat) : Int)] [vR 89] mfX8_at slX8_at mlX8_175 dX8_hang_222 rfl rfl (Nat.le_of_ble_eq_true rfl) ⟨by decide, by decide, by decide, by decide⟩ ?_
                refine c_X8_at KW (upR (upR (upR (upR hi 77 fs) 78 gw) 79 gs) 88 (updF f88 (364 * (srcF σ H p) + v) 1000)) (upR hl 89 f89) (srcF σ H p) v (by omega) (by omega) _ ?_
                refine V.qI (pc := 222) rfl rfl ?_
                refine V.dup2 (pc := 225) dX8_hang_225 rfl rfl ?_
                refine V.la (pc := 226) (len := 6188) (364 * (srcF σ H p) + v) (X.2 (srcF σ H p) v) dX8_hang_226 (kS_89) (rfl) (by omega) (hRo.2) ?_
                refine V.aload_n (pc := 227) 0 dX8_hang_227 rfl ?_
                refine V.gr (pc := 228) 8 17 88 flX8_41 dX8_hang_228 (kS_77) (by decide) (by decide) rfl (kR_77_17) ?_
                refine V.iload_n (pc := 231) 2 dX8_hang_231 rfl ?_
                refine V.iload_n (pc := 232) 3 dX8_hang_232 rfl ?_
                refine V.callS (pc := 233) (e1 := eX8_at) 2 [vI (((srcF σ H p) : Nat) : Int), vI ((v : Nat) : Int)] [vR 88, vL (X.2 (srcF σ H p) v), vI (((364 * (srcF σ H p) + v) : Nat) : Int), vR 89] mfX8_at slX8_at mlX8_175 dX8_hang_233 rfl rfl (Nat.le_of_ble_eq_true rfl) ⟨by decide, by decide, by decide, by decide⟩ ?_
                refine c_X8_at KW (upR (upR (upR (upR hi 77 fs) 78 gw) 79 gs) 88 (updF f88 (364 * (srcF σ H p) + v) 1000)) (upR hl 89 f89) (srcF σ H p) v (by omega) (by omega) _ ?_
                refine V.qI (pc := 233) rfl rfl ?_
                refine V.ia (pc := 236) (len := 6188) (364 * (srcF σ H p) + v) (hgC X (so σ (he σ p)) p (srcF σ H p) v) dX8_hang_236 (kS_88) (rfl) (by omega) (by show updF f88 _ _ _ = _; rw [updF_s]; exact hfc.symm) ?_
                refine V.sipush (pc := 237) (z := 1000) dX8_hang_237 (by decide +kernel) ⟨by decide, by decide⟩ ?_
                refine V.icmp_ge (pc := 240) 248 dX8_hang_240 (by decide) (fun h240 => ?_) (fun h240 => ?_)
                · skip
                  refine V.lconst (pc := 248) (z := 0) dX8_hang_248 (by decide +kernel) ⟨by decide, by decide⟩ ?_
                  refine V.lmul (pc := 249) ((hgN X (so σ (he σ p)) p (srcF σ H p) v)) dX8_hang_249 (by unfold hgN; rw [if_neg (by omega)]) ?_
                  refine V.js (pc := 250) (len := 6188) (hl' := (upR hl 89 (updF f89 (364 * (srcF σ H p) + v) (hgN X (so σ (he σ p)) p (srcF σ H p) v)))) (364 * (srcF σ H p) + v) dX8_hang_250 (kS_89) (rfl) (by omega) u1 ?_
                  have hny : hgN X (so σ (he σ p)) p (srcF σ H p) v = hgN X (so σ (he σ p)) p (srcF σ H p) v := rfl
                  have hfx := hfc.symm
                  refine V.iinc (pc := 251) (r := ((v + 1 : Nat) : Int)) 3 dX8_hang_251 rfl (w32_of (by omega) (by omega) (by omega)) (by decide) (ls' := [(3, vI ((v + 1 : Nat) : Int)), (0, vR 77), (1, vI ((p : Nat) : Int)), (2, vI (((srcF σ H p) : Nat) : Int)), (4, vI best), (5, vL many), (7, vI ((k : Nat) : Int))]) rfl ?_
                  refine V.goto (pc := 254) 8 dX8_hang_254 (by decide) ?_
                  refine V.locs [1, 2, 3, 0] (ls' := [(0, vR 77), (1, vI ((p : Nat) : Int)), (2, vI (((srcF σ H p) : Nat) : Int)), (3, vI ((v + 1 : Nat) : Int))]) rfl ?_
                  exact ih8 (v + 1) fs gw gs (updF f88 (364 * (srcF σ H p) + v) 1000) (updF f89 (364 * (srcF σ H p) + v) (hgN X (so σ (he σ p)) p (srcF σ H p) v)) (by omega) (fun j h1 h3 => (hs1 j h1 h3).trans (hf j h1 h3)) (RW_k hR hon (by omega) hfx hny) (by omega)
                · skip
                  refine V.lload (pc := 243) 5 dX8_hang_243 rfl ?_
                  refine V.goto (pc := 245) 249 dX8_hang_245 (by decide) ?_
                  refine V.lmul (pc := 249) ((hgN X (so σ (he σ p)) p (srcF σ H p) v)) dX8_hang_249 (by unfold hgN; rw [if_pos (by omega), ← hm]) ?_
                  refine V.js (pc := 250) (len := 6188) (hl' := (upR hl 89 (updF f89 (364 * (srcF σ H p) + v) (hgN X (so σ (he σ p)) p (srcF σ H p) v)))) (364 * (srcF σ H p) + v) dX8_hang_250 (kS_89) (rfl) (by omega) u1 ?_
                  have hny : hgN X (so σ (he σ p)) p (srcF σ H p) v = hgN X (so σ (he σ p)) p (srcF σ H p) v := rfl
                  have hfx := hfc.symm
                  refine V.iinc (pc := 251) (r := ((v + 1 : Nat) : Int)) 3 dX8_hang_251 rfl (w32_of (by omega) (by omega) (by omega)) (by decide) (ls' := [(3, vI ((v + 1 : Nat) : Int)), (0, vR 77), (1, vI ((p : Nat) : Int)), (2, vI (((srcF σ H p) : Nat) : Int)), (4, vI best), (5, vL many), (7, vI ((k : Nat) : Int))]) rfl ?_
                  refine V.goto (pc := 254) 8 dX8_hang_254 (by decide) ?_
                  refine V.locs [1, 2, 3, 0] (ls' := [(0, vR 77), (1, vI ((p : Nat) : Int)), (2, vI (((srcF σ H p) : Nat) : Int)), (3, vI ((v + 1 : Nat) : Int))]) rfl ?_
                  exact ih8 (v + 1) fs gw gs (updF f88 (364 * (srcF σ H p) + v) 1000) (updF f89 (364 * (srcF σ H p) + v) (hgN X (so σ (he σ p)) p (srcF σ H p) v)) (by omega) (fun j h1 h3 => (hs1 j h1 h3).trans (hf j h1 h3)) (RW_k hR hon (by omega) hfx hny) (by omega)
              · have hfc : hgC X (so σ (he σ p)) p (srcF σ H p) v = X.1 (srcF σ H p) v + best := by unfold hgC cap; rw [← hb, if_pos (by omega)]
                refine V.aload_n (pc := 196) 0 dX8_hang_196 rfl ?_
                refine V.gr (pc := 197) 8 17 88 flX8_41 dX8_hang_197 (kS_77) (by decide) (by decide) rfl (kR_77_17) ?_
                refine V.iload_n (pc := 200) 2 dX8_hang_200 rfl ?_
                refine V.iload_n (pc := 201) 3 dX8_hang_201 rfl ?_
                refine V.callS (pc := 202) (e1 := eX8_at) 2 [vI (((srcF σ H p) : Nat) : Int), vI ((v : Nat) : Int)] [vR 88, vI (((364 * (srcF σ H p) + v) : Nat) : Int), vR 88] mfX8_at slX8_at mlX8_175 dX8_hang_202 rfl rfl (Nat.le_of_ble_eq_true rfl) ⟨by decide, by decide, by decide, by decide⟩ ?_
                refine c_X8_at KW (upR (upR (upR (upR hi 77 fs) 78 gw) 79 gs) 88 f88) (upR hl 89 f89) (srcF σ H p) v (by omega) (by omega) _ ?_
                refine V.qI (pc := 202) rfl rfl ?_
                refine V.ia (pc := 205) (len := 6188) (364 * (srcF σ H p) + v) (X.1 (srcF σ H p) v) dX8_hang_205 (kS_88) (rfl) (by omega) (hRo.1) ?_
                refine V.iload (pc := 206) 4 dX8_hang_206 rfl ?_
                refine V.iadd (pc := 208) ((X.1 (srcF σ H p) v + best)) dX8_hang_208 (w32_of (by omega) (by omega) (by omega)) ?_
                refine V.goto (pc := 209) 215 dX8_hang_209 (by decide) ?_
                refine V.is (pc := 215) (len := 6188) (hi' := (upR (upR (upR (upR hi 77 fs) 78 gw) 79 gs) 88 (updF f88 (364 * (srcF σ H p) + v) (X.1 (srcF σ H p) v + best)))) (364 * (srcF σ H p) + v) dX8_hang_215 (kS_88) (rfl) (by omega) u1 ?_
                refine V.aload_n (pc := 216) 0 dX8_hang_216 rfl ?_
                refine V.gr (pc := 217) 8 18 89 flX8_44 dX8_hang_217 (kS_77) (by decide) (by decide) rfl (kR_77_18) ?_
                refine V.iload_n (pc := 220) 2 dX8_hang_220 rfl ?_
                refine V.iload_n (pc := 221) 3 dX8_hang_221 rfl ?_
                refine V.callS (pc := 222) (e1 := eX8_at) 2 [vI (((srcF σ H p) : Nat) : Int), vI ((v : Nat) : Int)] [vR 89] mfX8_at slX8_at mlX8_175 dX8_hang_222 rfl rfl (Nat.le_of_ble_eq_true rfl) ⟨by decide, by decide, by decide, by decide⟩ ?_
                refine c_X8_at KW (upR (upR (upR (upR hi 77 fs) 78 gw) 79 gs) 88 (updF f88 (364 * (srcF σ H p) + v) (X.1 (srcF σ H p) v + best))) (upR hl 89 f89) (srcF σ H p) v (by omega) (by omega) _ ?_
                refine V.qI (pc := 222) rfl rfl ?_
                refine V.dup2 (pc := 225) dX8_hang_225 rfl rfl ?_
                refine V.la (pc := 226) (len := 6188) (364 * (srcF σ H p) + v) (X.2 (srcF σ H p) v) dX8_hang_226 (kS_89) (rfl) (by omega) (hRo.2) ?_
                refine V.aload_n (pc := 227) 0 dX8_hang_227 rfl ?_
                refine V.gr (pc := 228) 8 17 88 flX8_41 dX8_hang_228 (kS_77) (by decide) (by decide) rfl (kR_77_17) ?_
                refine V.iload_n (pc := 231) 2 dX8_hang_231 rfl ?_
                refine V.iload_n (pc := 232) 3 dX8_hang_232 rfl ?_
                refine V.callS (pc := 233) (e1 := eX8_at) 2 [vI (((srcF σ H p) : Nat) : Int), vI ((v : Nat) : Int)] [vR 88, vL (X.2 (srcF σ H p) v), vI (((364 * (srcF σ H p) + v) : Nat) : Int), vR 89] mfX8_at slX8_at mlX8_175 dX8_hang_233 rfl rfl (Nat.le_of_ble_eq_true rfl) ⟨by decide, by decide, by decide, by decide⟩ ?_
                refine c_X8_at KW (upR (upR (upR (upR hi 77 fs) 78 gw) 79 gs) 88 (updF f88 (364 * (srcF σ H p) + v) (X.1 (srcF σ H p) v + best))) (upR hl 89 f89) (srcF σ H p) v (by omega) (by omega) _ ?_
                refine V.qI (pc := 233) rfl rfl ?_
                refine V.ia (pc := 236) (len := 6188) (364 * (srcF σ H p) + v) (hgC X (so σ (he σ p)) p (srcF σ H p) v) dX8_hang_236 (kS_88) (rfl) (by omega) (by show updF f88 _ _ _ = _; rw [updF_s]; exact hfc.symm) ?_
                refine V.sipush (pc := 237) (z := 1000) dX8_hang_237 (by decide +kernel) ⟨by decide, by decide⟩ ?_
                refine V.icmp_ge (pc := 240) 248 dX8_hang_240 (by decide) (fun h240 => ?_) (fun h240 => ?_)
                · skip
                  refine V.lconst (pc := 248) (z := 0) dX8_hang_248 (by decide +kernel) ⟨by decide, by decide⟩ ?_
                  refine V.lmul (pc := 249) ((hgN X (so σ (he σ p)) p (srcF σ H p) v)) dX8_hang_249 (by unfold hgN; rw [if_neg (by omega)]) ?_
                  refine V.js (pc := 250) (len := 6188) (hl' := (upR hl 89 (updF f89 (364 * (srcF σ H p) + v) (hgN X (so σ (he σ p)) p (srcF σ H p) v)))) (364 * (srcF σ H p) + v) dX8_hang_250 (kS_89) (rfl) (by omega) u1 ?_
                  have hny : hgN X (so σ (he σ p)) p (srcF σ H p) v = hgN X (so σ (he σ p)) p (srcF σ H p) v := rfl
                  have hfx := hfc.symm
                  refine V.iinc (pc := 251) (r := ((v + 1 : Nat) : Int)) 3 dX8_hang_251 rfl (w32_of (by omega) (by omega) (by omega)) (by decide) (ls' := [(3, vI ((v + 1 : Nat) : Int)), (0, vR 77), (1, vI ((p : Nat) : Int)), (2, vI (((srcF σ H p) : Nat) : Int)), (4, vI best), (5, vL many), (7, vI ((k : Nat) : Int))]) rfl ?_
                  refine V.goto (pc := 254) 8 dX8_hang_254 (by decide) ?_
                  refine V.locs [1, 2, 3, 0] (ls' := [(0, vR 77), (1, vI ((p : Nat) : Int)), (2, vI (((srcF σ H p) : Nat) : Int)), (3, vI ((v + 1 : Nat) : Int))]) rfl ?_
                  exact ih8 (v + 1) fs gw gs (updF f88 (364 * (srcF σ H p) + v) (X.1 (srcF σ H p) v + best)) (updF f89 (364 * (srcF σ H p) + v) (hgN X (so σ (he σ p)) p (srcF σ H p) v)) (by omega) (fun j h1 h3 => (hs1 j h1 h3).trans (hf j h1 h3)) (RW_k hR hon (by omega) hfx hny) (by omega)
                · skip
                  refine V.lload (pc := 243) 5 dX8_hang_243 rfl ?_
                  refine V.goto (pc := 245) 249 dX8_hang_245 (by decide) ?_
                  refine V.lmul (pc := 249) ((hgN X (so σ (he σ p)) p (srcF σ H p) v)) dX8_hang_249 (by unfold hgN; rw [if_pos (by omega), ← hm]) ?_
                  refine V.js (pc := 250) (len := 6188) (hl' := (upR hl 89 (updF f89 (364 * (srcF σ H p) + v) (hgN X (so σ (he σ p)) p (srcF σ H p) v)))) (364 * (srcF σ H p) + v) dX8_hang_250 (kS_89) (rfl) (by omega) u1 ?_
                  have hny : hgN X (so σ (he σ p)) p (srcF σ H p) v = hgN X (so σ (he σ p)) p (srcF σ H p) v := rfl
                  have hfx := hfc.symm
                  refine V.iinc (pc := 251) (r := ((v + 1 : Nat) : Int)) 3 dX8_hang_251 rfl (w32_of (by omega) (by omega) (by omega)) (by decide) (ls' := [(3, vI ((v + 1 : Nat) : Int)), (0, vR 77), (1, vI ((p : Nat) : Int)), (2, vI (((srcF σ H p) : Nat) : Int)), (4, vI best), (5, vL many), (7, vI ((k : Nat) : Int))]) rfl ?_
                  refine V.goto (pc := 254) 8 dX8_hang_254 (by decide) ?_
                  refine V.locs [1, 2, 3, 0] (ls' := [(0, vR 77), (1, vI ((p : Nat) : Int)), (2, vI (((srcF σ H p) : Nat) : Int)), (3, vI ((v + 1 : Nat) : Int))]) rfl ?_
                  exact ih8 (v + 1) fs gw gs (updF f88 (364 * (srcF σ H p) + v) (X.1 (srcF σ H p) v + best)) (updF f89 (364 * (srcF σ H p) + v) (hgN X (so σ (he σ p)) p (srcF σ H p) v)) (by omega) (fun j h1 h3 => (hs1 j h1 h3).trans (hf j h1 h3)) (RW_k hR hon (by omega) hfx hny) (by omega)
            · skip
              refine V.iconst (pc := 67) (z := 1) dX8_hang_67 rfl ⟨by decide, by decide⟩ ?_
              refine V.aload_n (pc := 68) 0 dX8_hang_68 rfl ?_
              refine V.gr (pc := 69) 8 17 88 flX8_41 dX8_hang_69 (kS_77) (by decide) (by decide) rfl (kR_77_17) ?_
              refine V.iload_n (pc := 72) 1 dX8_hang_72 rfl ?_
              refine V.aload_n (pc := 73) 0 dX8_hang_73 rfl ?_
              refine V.gr (pc := 74) 8 2 79 flX8_13 dX8_hang_74 (kS_77) (by decide) (by decide) rfl (kR_77_2) ?_
              refine V.iload (pc := 77) 6 dX8_hang_77 rfl ?_
              refine V.ia (pc := 79) (len := 40) k (((nth (so σ (he σ p)) v (k + 1)) : Nat) : Int) dX8_hang_79 (kS_79) (rfl) (by omega) (by rw [nth_in (by omega)]; exact hs3 _ (by omega)) ?_
              refine V.callS (pc := 80) (e1 := eX8_at) 2 [vI ((p : Nat) : Int), vI (((nth (so σ (he σ p)) v (k + 1)) : Nat) : Int)] [vR 88, vI 1] mfX8_at slX8_at mlX8_175 dX8_hang_80 rfl rfl (Nat.le_of_ble_eq_true rfl) ⟨by decide, by decide, by decide, by decide⟩ ?_
              refine c_X8_at KW (upR (upR (upR (upR hi 77 fs) 78 gw) 79 gs) 88 f88) (upR hl 89 f89) p (nth (so σ (he σ p)) v (k + 1)) (by omega) (by omega) _ ?_
              refine V.qI (pc := 80) rfl rfl ?_
              refine V.ia (pc := 83) (len := 6188) (364 * p + (nth (so σ (he σ p)) v (k + 1))) (X.1 p (nth (so σ (he σ p)) v (k + 1))) dX8_hang_83 (kS_88) (rfl) (by omega) (hRn.1) ?_
              refine V.iadd (pc := 84) ((X.1 p (nth (so σ (he σ p)) v (k + 1)) + 1)) dX8_hang_84 (w32_of (by omega) (by omega) (by omega)) ?_
              refine V.istore (pc := 85) (i := 8) dX8_hang_85 (by decide) (ls' := [(8, vI (X.1 p (nth (so σ (he σ p)) v (k + 1)) + 1)), (0, vR 77), (1, vI ((p : Nat) : Int)), (2, vI (((srcF σ H p) : Nat) : Int)), (3, vI ((v : Nat) : Int)), (4, vI best), (5, vL many), (7, vI ((k : Nat) : Int))]) rfl ?_
              refine V.iload (pc := 87) 0 dX8_hang_87 rfl ?_
              refine V.iload (pc := 89) 5 dX8_hang_89 rfl ?_
              refine V.icmp_ge (pc := 91) 113 dX8_hang_91 (by decide) (fun h91 => ?_) (fun h91 => ?_)
              · skip
                refine V.iload (pc := 113) 0 dX8_hang_113 rfl ?_
                refine V.iload (pc := 115) 5 dX8_hang_115 rfl ?_
                refine V.icmp_ne (pc := 117) 142 dX8_hang_117 (by decide) (fun h117 => ?_) (fun h117 => ?_)
                · skip
                  refine V.lload (pc := 142) 6 dX8_hang_142 rfl ?_
                  refine V.lstore (pc := 144) (i := 5) dX8_hang_144 (by decide) (ls' := [(5, vL many), (8, vI (X.1 p (nth (so σ (he σ p)) v (k + 1)) + 1)), (0, vR 77), (1, vI ((p : Nat) : Int)), (2, vI (((srcF σ H p) : Nat) : Int)), (3, vI ((v : Nat) : Int)), (4, vI best), (7, vI ((k : Nat) : Int))]) rfl ?_
                  refine V.iload (pc := 146) 1 dX8_hang_146 rfl ?_
                  refine V.iload (pc := 148) 6 dX8_hang_148 rfl ?_
                  refine V.icmp_ge (pc := 150) 158 dX8_hang_150 (by decide) (fun h150 => ?_) (fun hc => by exfalso; omega)
                  refine V.iload (pc := 158) 6 dX8_hang_158 rfl ?_
                  refine V.istore (pc := 160) (i := 4) dX8_hang_160 (by decide) (ls' := [(4, vI best), (5, vL many), (8, vI (X.1 p (nth (so σ (he σ p)) v (k + 1)) + 1)), (0, vR 77), (1, vI ((p : Nat) : Int)), (2, vI (((srcF σ H p) : Nat) : Int)), (3, vI ((v : Nat) : Int)), (7, vI ((k : Nat) : Int))]) rfl ?_
                  refine V.iinc (pc := 162) (r := ((k + 1 : Nat) : Int)) 7 dX8_hang_162 rfl (w32_of (by omega) (by omega) (by omega)) (by decide) (ls' := [(7, vI ((k + 1 : Nat) : Int)), (4, vI best), (5, vL many), (8, vI (X.1 p (nth (so σ (he σ p)) v (k + 1)) + 1)), (0, vR 77), (1, vI ((p : Nat) : Int)), (2, vI (((srcF σ H p) : Nat) : Int)), (3, vI ((v : Nat) : Int))]) rfl ?_
                  refine V.goto (pc := 165) 58 dX8_hang_165 (by decide) ?_
                  refine V.locs [4, 5, 6, 7, 1, 2, 0] (ls' := [(0, vR 77), (1, vI ((p : Nat) : Int)), (2, vI (((srcF σ H p) : Nat) : Int)), (3, vI ((v : Nat) : Int)), (4, vI best), (5, vL many), (7, vI ((k + 1 : Nat) : Int))]) rfl ?_
                  exact ih58 (k + 1) best many (by omega) (by rw [wgs_skip (by omega)]; exact hb) (by rw [wgs_skip (by omega)]; exact hm) (by omega)
                · skip
                  refine V.lload (pc := 120) 6 dX8_hang_120 rfl ?_
                  refine V.aload_n (pc := 122) 1 dX8_hang_122 rfl ?_
                  refine V.gr (pc := 123) 8 18 89 flX8_44 dX8_hang_123 (kS_77) (by decide) (by decide) rfl (kR_77_18) ?_
                  refine V.iload_n (pc := 126) 2 dX8_hang_126 rfl ?_
                  refine V.aload_n (pc := 127) 1 dX8_hang_127 rfl ?_
                  refine V.gr (pc := 128) 8 2 79 flX8_13 dX8_hang_128 (kS_77) (by decide) (by decide) rfl (kR_77_2) ?_
                  refine V.iload (pc := 131) 7 dX8_hang_131 rfl ?_
                  refine V.ia (pc := 133) (len := 40) k (((nth (so σ (he σ p)) v (k + 1)) : Nat) : Int) dX8_hang_133 (kS_79) (rfl) (by omega) (by rw [nth_in (by omega)]; exact hs3 _ (by omega)) ?_
                  refine V.callS (pc := 134) (e1 := eX8_at) 2 [vI ((p : Nat) : Int), vI (((nth (so σ (he σ p)) v (k + 1)) : Nat) : Int)] [vR 89, vL many] mfX8_at slX8_at mlX8_175 dX8_hang_134 rfl rfl (Nat.le_of_ble_eq_true rfl) ⟨by decide, by decide, by decide, by decide⟩ ?_
                  refine c_X8_at KW (upR (upR (upR (upR hi 77 fs) 78 gw) 79 gs) 88 f88) (upR hl 89 f89) p (nth (so σ (he σ p)) v (k + 1)) (by omega) (by omega) _ ?_
                  refine V.qI (pc := 134) rfl rfl ?_
                  refine V.la (pc := 137) (len := 6188) (364 * p + (nth (so σ (he σ p)) v (k + 1))) (X.2 p (nth (so σ (he σ p)) v (k + 1))) dX8_hang_137 (kS_89) (rfl) (by omega) (hRn.2) ?_
                  refine V.ladd (pc := 138) ((w64 (many + X.2 p (nth (so σ (he σ p)) v (k + 1))))) dX8_hang_138 rfl ?_
                  refine V.goto (pc := 139) 144 dX8_hang_139 (by decide) ?_
                  refine V.lstore (pc := 144) (i := 5) dX8_hang_144 (by decide) (ls' := [(5, vL (w64 (many + X.2 p (nth (so σ (he σ p)) v (k + 1))))), (8, vI (X.1 p (nth (so σ (he σ p)) v (k + 1)) + 1)), (0, vR 77), (1, vI ((p : Nat) : Int)), (2, vI (((srcF σ H p) : Nat) : Int)), (3, vI ((v : Nat) : Int)), (4, vI best), (7, vI ((k : Nat) : Int))]) rfl ?_
                  refine V.iload (pc := 146) 1 dX8_hang_146 rfl ?_
                  refine V.iload (pc := 148) 6 dX8_hang_148 rfl ?_
                  refine V.icmp_ge (pc := 150) 158 dX8_hang_150 (by decide) (fun h150 => ?_) (fun hc => by exfalso; omega)
                  refine V.iload (pc := 158) 6 dX8_hang_158 rfl ?_
                  refine V.istore (pc := 160) (i := 4) dX8_hang_160 (by decide) (ls' := [(4, vI best), (5, vL (w64 (many + X.2 p (nth (so σ (he σ p)) v (k + 1))))), (8, vI (X.1 p (nth (so σ (he σ p)) v (k + 1)) + 1)), (0, vR 77), (1, vI ((p : Nat) : Int)), (2, vI (((srcF σ H p) : Nat) : Int)), (3, vI ((v : Nat) : Int)), (7, vI ((k : Nat) : Int))]) rfl ?_
                  refine V.iinc (pc := 162) (r := ((k + 1 : Nat) : Int)) 7 dX8_hang_162 rfl (w32_of (by omega) (by omega) (by omega)) (by decide) (ls' := [(7, vI ((k + 1 : Nat) : Int)), (4, vI best), (5, vL (w64 (many + X.2 p (nth (so σ (he σ p)) v (k + 1))))), (8, vI (X.1 p (nth (so σ (he σ p)) v (k + 1)) + 1)), (0, vR 77), (1, vI ((p : Nat) : Int)), (2, vI (((srcF σ H p) : Nat) : Int)), (3, vI ((v : Nat) : Int))]) rfl ?_
                  refine V.goto (pc := 165) 58 dX8_hang_165 (by decide) ?_
                  refine V.locs [4, 5, 6, 7, 1, 2, 0] (ls' := [(0, vR 77), (1, vI ((p : Nat) : Int)), (2, vI (((srcF σ H p) : Nat) : Int)), (3, vI ((v : Nat) : Int)), (4, vI best), (5, vL (w64 (many + X.2 p (nth (so σ (he σ p)) v (k + 1))))), (7, vI ((k + 1 : Nat) : Int))]) rfl ?_
                  exact ih58 (k + 1) best (w64 (many + X.2 p (nth (so σ (he σ p)) v (k + 1)))) (by omega) (by rw [wgs_eq (by omega) (by omega)]; dsimp only; omega) (by rw [wgs_eq (by omega) (by omega), hm]) (by omega)
              · skip
                refine V.aload_n (pc := 94) 1 dX8_hang_94 rfl ?_
                refine V.gr (pc := 95) 8 18 89 flX8_44 dX8_hang_95 (kS_77) (by decide) (by decide) rfl (kR_77_18) ?_
                refine V.iload_n (pc := 98) 2 dX8_hang_98 rfl ?_
                refine V.aload_n (pc := 99) 1 dX8_hang_99 rfl ?_
                refine V.gr (pc := 100) 8 2 79 flX8_13 dX8_hang_100 (kS_77) (by decide) (by decide) rfl (kR_77_2) ?_
                refine V.iload (pc := 103) 7 dX8_hang_103 rfl ?_
                refine V.ia (pc := 105) (len := 40) k (((nth (so σ (he σ p)) v (k + 1)) : Nat) : Int) dX8_hang_105 (kS_79) (rfl) (by omega) (by rw [nth_in (by omega)]; exact hs3 _ (by omega)) ?_
                refine V.callS (pc := 106) (e1 := eX8_at) 2 [vI ((p : Nat) : Int), vI (((nth (so σ (he σ p)) v (k + 1)) : Nat) : Int)] [vR 89] mfX8_at slX8_at mlX8_175 dX8_hang_106 rfl rfl (Nat.le_of_ble_eq_true rfl) ⟨by decide, by decide, by decide, by decide⟩ ?_
                refine c_X8_at KW (upR (upR (upR (upR hi 77 fs) 78 gw) 79 gs) 88 f88) (upR hl 89 f89) p (nth (so σ (he σ p)) v (k + 1)) (by omega) (by omega) _ ?_
                refine V.qI (pc := 106) rfl rfl ?_
                refine V.la (pc := 109) (len := 6188) (364 * p + (nth (so σ (he σ p)) v (k + 1))) (X.2 p (nth (so σ (he σ p)) v (k + 1))) dX8_hang_109 (kS_89) (rfl) (by omega) (hRn.2) ?_
                refine V.goto (pc := 110) 144 dX8_hang_110 (by decide) ?_
                refine V.lstore (pc := 144) (i := 5) dX8_hang_144 (by decide) (ls' := [(5, vL (X.2 p (nth (so σ (he σ p)) v (k + 1)))), (8, vI (X.1 p (nth (so σ (he σ p)) v (k + 1)) + 1)), (0, vR 77), (1, vI ((p : Nat) : Int)), (2, vI (((srcF σ H p) : Nat) : Int)), (3, vI ((v : Nat) : Int)), (4, vI best), (7, vI ((k : Nat) : Int))]) rfl ?_
                refine V.iload (pc := 146) 1 dX8_hang_146 rfl ?_
                refine V.iload (pc := 148) 6 dX8_hang_148 rfl ?_
                refine V.icmp_ge (pc := 150) 158 dX8_hang_150 (by decide) (fun hc => by exfalso; omega) (fun h150 => ?_)
                refine V.iload (pc := 153) 1 dX8_hang_153 rfl ?_
                refine V.goto (pc := 155) 160 dX8_hang_155 (by decide) ?_
                refine V.istore (pc := 160) (i := 4) dX8_hang_160 (by decide) (ls' := [(4, vI (X.1 p (nth (so σ (he σ p)) v (k + 1)) + 1)), (5, vL (X.2 p (nth (so σ (he σ p)) v (k + 1)))), (8, vI (X.1 p (nth (so σ (he σ p)) v (k + 1)) + 1)), (0, vR 77), (1, vI ((p : Nat) : Int)), (2, vI (((srcF σ H p) : Nat) : Int)), (3, vI ((v : Nat) : Int)), (7, vI ((k : Nat) : Int))]) rfl ?_
                refine V.iinc (pc := 162) (r := ((k + 1 : Nat) : Int)) 7 dX8_hang_162 rfl (w32_of (by omega) (by omega) (by omega)) (by decide) (ls' := [(7, vI ((k + 1 : Nat) : Int)), (4, vI (X.1 p (nth (so σ (he σ p)) v (k + 1)) + 1)), (5, vL (X.2 p (nth (so σ (he σ p)) v (k + 1)))), (8, vI (X.1 p (nth (so σ (he σ p)) v (k + 1)) + 1)), (0, vR 77), (1, vI ((p : Nat) : Int)), (2, vI (((srcF σ H p) : Nat) : Int)), (3, vI ((v : Nat) : Int))]) rfl ?_
                refine V.goto (pc := 165) 58 dX8_hang_165 (by decide) ?_
                refine V.locs [4, 5, 6, 7, 1, 2, 0] (ls' := [(0, vR 77), (1, vI ((p : Nat) : Int)), (2, vI (((srcF σ H p) : Nat) : Int)), (3, vI ((v : Nat) : Int)), (4, vI (X.1 p (nth (so σ (he σ p)) v (k + 1)) + 1)), (5, vL (X.2 p (nth (so σ (he σ p)) v (k + 1)))), (7, vI ((k + 1 : Nat) : Int))]) rfl ?_
                exact ih58 (k + 1) (X.1 p (nth (so σ (he σ p)) v (k + 1)) + 1) (X.2 p (nth (so σ (he σ p)) v (k + 1))) (by omega) (by rw [wgs_lt (by omega)]) (by rw [wgs_lt (by omega)]) (by omega)
        refine V.locs [3, 4, 5, 6, 2, 1, 0] (ls' := [(0, vR 77), (1, vI ((p : Nat) : Int)), (2, vI (((srcF σ H p) : Nat) : Int)), (3, vI ((v : Nat) : Int)), (4, vI (X.1 p v)), (5, vL (X.2 p v)), (7, vI 0)]) rfl ?_
        exact lp58 _ 0 (X.1 p v) (X.2 p v) (by omega) (rfl) (rfl) (Nat.lt_succ_self _)
  refine V.locs [2, 3, 1, 0] (ls' := [(0, vR 77), (1, vI ((p : Nat) : Int)), (2, vI ((srcF σ H p : Nat) : Int)), (3, vI 0)]) rfl ?_
  exact lp8 _ 0 (hi 77) (hi 78) (hi 79) (hi 88) (hl 89) (by omega) (fun _ _ _ => rfl) (RW_0 hX) (Nat.lt_succ_self _)

