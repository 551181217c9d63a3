set_option maxRecDepth 100000 in
theorem c_X8_forget (hi hl : HI) (Q : QT) (hq : ∀ f, (∀ b, b < 6 → f b = -6) → Q none KW (upR hi 86 f) hl) : Con eX8_forget [vR 77] KW hi hl Q := by
  refine Con.ofV (by decide +kernel) (Nat.le_of_ble_eq_true rfl) ?_
  show V eX8_forget none KW 0 [(0, vR 77)] [] hi hl 0 0 Q
  refine V.hieq (hi' := (upR hi 86 (hi 86))) (by rw [upR_id]) ?_
  refine V.iconst (pc := 0) (z := 0) dX8_forget_0 rfl ⟨by decide, by decide⟩ ?_
  refine V.istore_n (pc := 1) (i := 1) dX8_forget_1 rfl (by decide) (ls' := [(1, vI 0), (0, vR 77)]) rfl ?_
  have lp2 : ∀ (fu2 : Nat) (k : Nat) (f : Nat → Int), (k ≤ 6) → (∀ b, b < k → f b = -6) → 6 - k < fu2 → V eX8_forget none KW 2 [(0, vR 77), (1, vI ((k : Nat) : Int))] [] (upR hi 86 f) hl 0 0 Q := by
    intro fu2
    induction fu2 with
    | zero => intro k f hk hC hm2; exact absurd hm2 (Nat.not_lt_zero _)
    | succ fu2 ih2 =>
      intro k f hk hC hm2
      refine V.iload_n (pc := 2) 1 dX8_forget_2 rfl ?_
      refine V.bipush (pc := 3) (z := 6) dX8_forget_3 (by decide +kernel) ⟨by decide, by decide⟩ ?_
      refine V.icmp_ge (pc := 5) 22 dX8_forget_5 (by decide) (fun h5 => ?_) (fun h5 => ?_)
      · skip
        refine V.vret (pc := 22) dX8_forget_22 rfl ?_
        exact hq _ (fun b hb => hC b (by omega))
      · skip
        refine V.aload_n (pc := 8) 0 dX8_forget_8 rfl ?_
        refine V.gr (pc := 9) 8 14 86 flX8_34 dX8_forget_9 (kS_77) (by decide) (by decide) rfl (kR_77_14) ?_
        refine V.iload_n (pc := 12) 1 dX8_forget_12 rfl ?_
        refine V.bipush (pc := 13) (z := (-6)) dX8_forget_13 (by decide +kernel) ⟨by decide, by decide⟩ ?_
        refine V.is (pc := 15) (len := 6) (hi' := (upR hi 86 (updF f k (-6)))) k dX8_forget_15 (kS_86) (rfl) (by omega) u1 ?_
        refine V.iinc (pc := 16) (r := ((k + 1 : Nat) : Int)) 1 dX8_forget_16 rfl (w32_of (by omega) (by omega) (by omega)) (by decide) (ls' := [(1, vI ((k + 1 : Nat) : Int)), (0, vR 77)]) rfl ?_
        refine V.goto (pc := 19) 2 dX8_forget_19 (by decide) ?_
        refine V.locs [1, 0] (ls' := [(0, vR 77), (1, vI ((k + 1 : Nat) : Int))]) rfl ?_
        exact ih2 (k + 1) (updF f k (-6)) (by omega) (fun b hb => by by_cases e : b = k; { rw [e, updF_s] }; { rw [updF_n e]; exact hC b (by omega) }) (by omega)
  refine V.locs [1, 0] (ls' := [(0, vR 77), (1, vI 0)]) rfl ?_
  exact lp2 _ 0 (hi 86) (by omega) (fun b hb => absurd hb (Nat.not_lt_zero b)) (Nat.lt_succ_self _)

set_option maxRecDepth 100000 in
theorem c_X8_hears (hi hl : HI) (σ : SG) (hC : MR hi σ) (w : WS) (p : Nat) (hp : p < nn σ) (hW : WM (hi 77) (hi 86) (hi 87) w p) (first : Bool) (Q : QT) (hq : Q (some (vI (b2i (hearsB σ first w p)))) KW hi hl) : Con eX8_hears [vR 77, vI (p : Nat), vI (b2i first)] KW hi hl Q := by
  refine Con.ofV (by decide +kernel) (Nat.le_of_ble_eq_true rfl) ?_
  show V eX8_hears none KW 0 [(0, vR 77), (1, vI ((p : Nat) : Int)), (2, vI (b2i first))] [] hi hl 0 0 Q
  have hwf := hC.1
  have hpp := hwf.2.2.2.1 p hp
  have hn16 := hwf.2.2.1
  have hCp := hC.2.2.2.2.1 p hp
  have hok := hW.1
  refine V.aload_n (pc := 0) 0 dX8_hears_0 rfl ?_
  refine V.gr (pc := 1) 8 5 81 flX8_19 dX8_hears_1 (kS_77) (by decide) (by decide) rfl (kR_77_5) ?_
  refine V.iload_n (pc := 4) 1 dX8_hears_4 rfl ?_
  refine V.ia (pc := 5) (len := 16) p ((sp' σ p : Nat) : Int) dX8_hears_5 (kS_81) (rfl) (by omega) (hCp.1) ?_
  refine V.istore_n (pc := 6) (i := 3) dX8_hears_6 rfl (by decide) (ls' := [(3, vI ((sp' σ p : Nat) : Int)), (0, vR 77), (1, vI ((p : Nat) : Int)), (2, vI (b2i first))]) rfl ?_
  refine V.iload_n (pc := 7) 0 dX8_hears_7 rfl ?_
  refine V.bipush (pc := 8) (z := 7) dX8_hears_8 (by decide +kernel) ⟨by decide, by decide⟩ ?_
  refine V.icmp_ne (pc := 10) 15 dX8_hears_10 (by decide) (fun h10 => ?_) (fun h10 => ?_)
  · skip
    refine V.iload_n (pc := 15) 0 dX8_hears_15 rfl ?_
    refine V.bipush (pc := 16) (z := 6) dX8_hears_16 (by decide +kernel) ⟨by decide, by decide⟩ ?_
    refine V.icmp_ne (pc := 18) 23 dX8_hears_18 (by decide) (fun h18 => ?_) (fun h18 => ?_)
    · skip
      refine V.aload_n (pc := 23) 1 dX8_hears_23 rfl ?_
      refine V.gr (pc := 24) 8 4 80 flX8_16 dX8_hears_24 (kS_77) (by decide) (by decide) rfl (kR_77_4) ?_
      refine V.iload_n (pc := 27) 0 dX8_hears_27 rfl ?_
      refine V.ia (pc := 28) (len := 6) (sp' σ p) ((so σ (sp' σ p) : Nat) : Int) dX8_hears_28 (kS_80) (rfl) (by omega) (hC.2.1 _ (by omega)) ?_
      refine V.iconst (pc := 29) (z := 4) dX8_hears_29 rfl ⟨by decide, by decide⟩ ?_
      refine V.icmp_ne (pc := 30) 77 dX8_hears_30 (by decide) (fun h30 => ?_) (fun h30 => ?_)
      · skip
        refine V.iconst (pc := 77) (z := 1) dX8_hears_77 rfl ⟨by decide, by decide⟩ ?_
        refine V.goto (pc := 78) 82 dX8_hears_78 (by decide) ?_
        refine V.istore (pc := 82) (i := 4) dX8_hears_82 (by decide) (ls' := [(4, vI 1), (3, vI ((sp' σ p : Nat) : Int)), (0, vR 77), (1, vI ((p : Nat) : Int)), (2, vI (b2i first))]) rfl ?_
        refine V.iload (pc := 84) 0 dX8_hears_84 rfl ?_
        refine V.if_eq (pc := 86) 113 dX8_hears_86 (by decide) (fun hc => by exact absurd hc (by decide)) (fun h86 => ?_)
        refine V.aload_n (pc := 89) 2 dX8_hears_89 rfl ?_
        refine V.gi (pc := 90) 8 15 ((w.2.2 : Nat) : Int) flX8_150 dX8_hears_90 (kS_77) (by decide) (by decide) rfl (hW.2.2.2) ?_
        refine V.iload_n (pc := 93) 1 dX8_hears_93 rfl ?_
        have hsw := hok.2
        refine V.ishr (pc := 94) (((w.2.2 / 2 ^ sp' σ p : Nat) : Int)) dX8_hears_94 (hN (a := w.2.2) (k := sp' σ p) (by omega) (by omega)) (rI_n (by have := Nat.div_le_self w.2.2 (2 ^ sp' σ p); omega)) ?_
        refine V.iconst (pc := 95) (z := 1) dX8_hears_95 rfl ⟨by decide, by decide⟩ ?_
        refine V.iand (pc := 96) (((w.2.2 / 2 ^ sp' σ p &&& 1 : Nat) : Int)) dX8_hears_96 (aN (w.2.2 / 2 ^ sp' σ p) 1) (rI_n (by rw [bit1]; split <;> omega)) ?_
        refine V.if_ne (pc := 97) 113 dX8_hears_97 (by decide) (fun h97 => ?_) (fun h97 => ?_)
        · skip
          refine V.iconst (pc := 113) (z := 0) dX8_hears_113 rfl ⟨by decide, by decide⟩ ?_
          refine V.zret (pc := 114) (z := 0) dX8_hears_114 rfl (Or.inl rfl) ?_
          rw [show b2i (hearsB σ first w p) = 0 by
            first
            | (rw [hB_m (by omega)]; rfl)
            | (rw [hB_X (by omega)]; done)
            | (rw [hB_n (by omega) (encM_n h106)]; rfl)
            | (rw [hB_s (by omega) (bt_true h97)]; rfl)
            | (rw [hB_y (by omega) hv hbf, hA1, Bool.or_true]; rfl)
            | (rw [hB_y (by omega) hv hbf, show (so σ (sp' σ p) != 4) = true by simp; omega]; rfl)
            | (cases hv9 : w.1 (sp' σ p) with
              | none => rw [hB_n (by omega) hv9]; rfl
              | some v9 => cases hb9 : w.2.2.testBit (sp' σ p) with
                | true => rw [hB_s (by omega) hb9]; rfl
                | false => rw [hB_y (by omega) hv9 hb9, hA0, show (so σ (sp' σ p) != 4) = false by simp; omega]; rfl)] at hq
          exact hq
        · have hbf := bt_false (show ((w.2.2 / 2 ^ sp' σ p &&& 1 : Nat) : Int) = 0 by omega)
          refine V.aload_n (pc := 100) 2 dX8_hears_100 rfl ?_
          refine V.gr (pc := 101) 8 14 86 flX8_34 dX8_hears_101 (kS_77) (by decide) (by decide) rfl (kR_77_14) ?_
          refine V.iload_n (pc := 104) 1 dX8_hears_104 rfl ?_
          refine V.ia (pc := 105) (len := 6) (sp' σ p) (encM (w.1 (sp' σ p))) dX8_hears_105 (kS_86) (rfl) (by omega) (hW.2.1 _ (by omega)) ?_
          refine V.if_lt (pc := 106) 113 dX8_hears_106 (by decide) (fun h106 => ?_) (fun h106 => ?_)
          · have h106 : ¬ 0 ≤ encM (w.1 (sp' σ p)) := by omega
            refine V.iconst (pc := 113) (z := 0) dX8_hears_113 rfl ⟨by decide, by decide⟩ ?_
            refine V.zret (pc := 114) (z := 0) dX8_hears_114 rfl (Or.inl rfl) ?_
            rw [show b2i (hearsB σ first w p) = 0 by
              first
              | (rw [hB_m (by omega)]; rfl)
              | (rw [hB_X (by omega)]; done)
              | (rw [hB_n (by omega) (encM_n h106)]; rfl)
              | (rw [hB_s (by omega) (bt_true h97)]; rfl)
              | (rw [hB_y (by omega) hv hbf, hA1, Bool.or_true]; rfl)
              | (rw [hB_y (by omega) hv hbf, show (so σ (sp' σ p) != 4) = true by simp; omega]; rfl)
              | (cases hv9 : w.1 (sp' σ p) with
                | none => rw [hB_n (by omega) hv9]; rfl
                | some v9 => cases hb9 : w.2.2.testBit (sp' σ p) with
                  | true => rw [hB_s (by omega) hb9]; rfl
                  | false => rw [hB_y (by omega) hv9 hb9, hA0, show (so σ (sp' σ p) != 4) = false by simp; omega]; rfl)] at hq
            exact hq
          · obtain ⟨v, hv⟩ := encM_s (show 0 ≤ encM (w.1 (sp' σ p)) by omega)
            refine V.iconst (pc := 109) (z := 1) dX8_hears_109 rfl ⟨by decide, by decide⟩ ?_
            refine V.goto (pc := 110) 114 dX8_hears_110 (by decide) ?_
            refine V.zret (pc := 114) (z := 1) dX8_hears_114 rfl (Or.inr rfl) ?_
            rw [show b2i (hearsB σ first w p) = 1 by
              first
              | (rw [hB_m (by omega)]; rfl)
              | (rw [hB_X (by omega)]; done)
              | (rw [hB_n (by omega) (encM_n h106)]; rfl)
              | (rw [hB_s (by omega) (bt_true h97)]; rfl)
              | (rw [hB_y (by omega) hv hbf, hA1, Bool.or_true]; rfl)
              | (rw [hB_y (by omega) hv hbf, show (so σ (sp' σ p) != 4) = true by simp; omega]; rfl)
              | (cases hv9 : w.1 (sp' σ p) with
                | none => rw [hB_n (by omega) hv9]; rfl
                | some v9 => cases hb9 : w.2.2.testBit (sp' σ p) with
                  | true => rw [hB_s (by omega) hb9]; rfl
                  | false => rw [hB_y (by omega) hv9 hb9, hA0, show (so σ (sp' σ p) != 4) = false by simp; omega]; rfl)] at hq
            exact hq
      · skip
        refine V.iload_n (pc := 33) 2 dX8_hears_33 rfl ?_
        refine V.if_le (pc := 34) 81 dX8_hears_34 (by decide) (fun h34 => ?_) (fun h34 => ?_)
        · have hA0 : ansB σ w p = false := ansB_f (fun q => by omega)
          refine V.iconst (pc := 81) (z := 0) dX8_hears_81 rfl ⟨by decide, by decide⟩ ?_
          refine V.istore (pc := 82) (i := 4) dX8_hears_82 (by decide) (ls' := [(4, vI 0), (3, vI ((sp' σ p : Nat) : Int)), (0, vR 77), (1, vI ((p : Nat) : Int)), (2, vI (b2i first))]) rfl ?_
          refine V.iload (pc := 84) 0 dX8_hears_84 rfl ?_
          refine V.if_eq (pc := 86) 113 dX8_hears_86 (by decide) (fun h86 => ?_) (fun hc => by exact absurd hc (by decide))
          refine V.iconst (pc := 113) (z := 0) dX8_hears_113 rfl ⟨by decide, by decide⟩ ?_
          refine V.zret (pc := 114) (z := 0) dX8_hears_114 rfl (Or.inl rfl) ?_
          rw [show b2i (hearsB σ first w p) = 0 by
            first
            | (rw [hB_m (by omega)]; rfl)
            | (rw [hB_X (by omega)]; done)
            | (rw [hB_n (by omega) (encM_n h106)]; rfl)
            | (rw [hB_s (by omega) (bt_true h97)]; rfl)
            | (rw [hB_y (by omega) hv hbf, hA1, Bool.or_true]; rfl)
            | (rw [hB_y (by omega) hv hbf, show (so σ (sp' σ p) != 4) = true by simp; omega]; rfl)
            | (cases hv9 : w.1 (sp' σ p) with
              | none => rw [hB_n (by omega) hv9]; rfl
              | some v9 => cases hb9 : w.2.2.testBit (sp' σ p) with
                | true => rw [hB_s (by omega) hb9]; rfl
                | false => rw [hB_y (by omega) hv9 hb9, hA0, show (so σ (sp' σ p) != 4) = false by simp; omega]; rfl)] at hq
          exact hq
        · skip
          refine V.aload_n (pc := 37) 1 dX8_hears_37 rfl ?_
          refine V.gr (pc := 38) 8 16 87 flX8_37 dX8_hears_38 (kS_77) (by decide) (by decide) rfl (kR_77_16) ?_
          refine V.iload_n (pc := 41) 2 dX8_hears_41 rfl ?_
          refine V.iconst (pc := 42) (z := 1) dX8_hears_42 rfl ⟨by decide, by decide⟩ ?_
          refine V.isub (pc := 43) ((((p - 1) : Nat) : Int)) dX8_hears_43 (w32_of (by omega) (by omega) (by omega)) ?_
          refine V.za (pc := 44) (len := 16) (p - 1) (b2i (w.2.1 (p - 1))) dX8_hears_44 (kS_87) (rfl) (by omega) (hW.2.2.1 _ (by omega)) ?_
          refine V.if_eq (pc := 45) 81 dX8_hears_45 (by decide) (fun h45 => ?_) (fun h45 => ?_)
          · have hA0 : ansB σ w p = false := ansB_f (fun q => by rw [q.2.1] at h45; exact absurd h45 (by decide))
            refine V.iconst (pc := 81) (z := 0) dX8_hears_81 rfl ⟨by decide, by decide⟩ ?_
            refine V.istore (pc := 82) (i := 4) dX8_hears_82 (by decide) (ls' := [(4, vI 0), (3, vI ((sp' σ p : Nat) : Int)), (0, vR 77), (1, vI ((p : Nat) : Int)), (2, vI (b2i first))]) rfl ?_
            refine V.iload (pc := 84) 0 dX8_hears_84 rfl ?_
            refine V.if_eq (pc := 86) 113 dX8_hears_86 (by decide) (fun h86 => ?_) (fun hc => by exact absurd hc (by decide))
            refine V.iconst (pc := 113) (z := 0) dX8_hears_113 rfl ⟨by decide, by decide⟩ ?_
            refine V.zret (pc := 114) (z := 0) dX8_hears_114 rfl (Or.inl rfl) ?_
            rw [show b2i (hearsB σ first w p) = 0 by
              first
              | (rw [hB_m (by omega)]; rfl)
              | (rw [hB_X (by omega)]; done)
              | (rw [hB_n (by omega) (encM_n h106)]; rfl)
              | (rw [hB_s (by omega) (bt_true h97)]; rfl)
              | (rw [hB_y (by omega) hv hbf, hA1, Bool.or_true]; rfl)
              | (rw [hB_y (by omega) hv hbf, show (so σ (sp' σ p) != 4) = true by simp; omega]; rfl)
              | (cases hv9 : w.1 (sp' σ p) with
                | none => rw [hB_n (by omega) hv9]; rfl
                | some v9 => cases hb9 : w.2.2.testBit (sp' σ p) with
                  | true => rw [hB_s (by omega) hb9]; rfl
                  | false => rw [hB_y (by omega) hv9 hb9, hA0, show (so σ (sp' σ p) != 4) = false by simp; omega]; rfl)] at hq
            exact hq
          · skip
            refine V.aload_n (pc := 48) 1 dX8_hears_48 rfl ?_
            refine V.gr (pc := 49) 8 6 82 flX8_22 dX8_hears_49 (kS_77) (by decide) (by decide) rfl (kR_77_6) ?_
            refine V.iload_n (pc := 52) 2 dX8_hears_52 rfl ?_
            refine V.iconst (pc := 53) (z := 1) dX8_hears_53 rfl ⟨by decide, by decide⟩ ?_
            refine V.isub (pc := 54) ((((p - 1) : Nat) : Int)) dX8_hears_54 (w32_of (by omega) (by omega) (by omega)) ?_
            refine V.ia (pc := 55) (len := 16) (p - 1) ((he σ (p - 1) : Nat) : Int) dX8_hears_55 (kS_82) (rfl) (by omega) ((hC.2.2.2.2.1 (p - 1) (by omega)).2.1) ?_
            refine V.iload_n (pc := 56) 0 dX8_hears_56 rfl ?_
            refine V.icmp_ne (pc := 57) 81 dX8_hears_57 (by decide) (fun h57 => ?_) (fun h57 => ?_)
            · have hA0 : ansB σ w p = false := ansB_f (fun q => by omega)
              refine V.iconst (pc := 81) (z := 0) dX8_hears_81 rfl ⟨by decide, by decide⟩ ?_
              refine V.istore (pc := 82) (i := 4) dX8_hears_82 (by decide) (ls' := [(4, vI 0), (3, vI ((sp' σ p : Nat) : Int)), (0, vR 77), (1, vI ((p : Nat) : Int)), (2, vI (b2i first))]) rfl ?_
              refine V.iload (pc := 84) 0 dX8_hears_84 rfl ?_
              refine V.if_eq (pc := 86) 113 dX8_hears_86 (by decide) (fun h86 => ?_) (fun hc => by exact absurd hc (by decide))
              refine V.iconst (pc := 113) (z := 0) dX8_hears_113 rfl ⟨by decide, by decide⟩ ?_
              refine V.zret (pc := 114) (z := 0) dX8_hears_114 rfl (Or.inl rfl) ?_
              rw [show b2i (hearsB σ first w p) = 0 by
                first
                | (rw [hB_m (by omega)]; rfl)
                | (rw [hB_X (by omega)]; done)
                | (rw [hB_n (by omega) (encM_n h106)]; rfl)
                | (rw [hB_s (by omega) (bt_true h97)]; rfl)
                | (rw [hB_y (by omega) hv hbf, hA1, Bool.or_true]; rfl)
                | (rw [hB_y (by omega) hv hbf, show (so σ (sp' σ p) != 4) = true by simp; omega]; rfl)
                | (cases hv9 : w.1 (sp' σ p) with
                  | none => rw [hB_n (by omega) hv9]; rfl
                  | some v9 => cases hb9 : w.2.2.testBit (sp' σ p) with
                    | true => rw [hB_s (by omega) hb9]; rfl
                    | false => rw [hB_y (by omega) hv9 hb9, hA0, show (so σ (sp' σ p) != 4) = false by simp; omega]; rfl)] at hq
              exact hq
            · skip
              refine V.aload_n (pc := 60) 1 dX8_hears_60 rfl ?_
              refine V.gr (pc := 61) 8 5 81 flX8_19 dX8_hears_61 (kS_77) (by decide) (by decide) rfl (kR_77_5) ?_
              refine V.iload_n (pc := 64) 2 dX8_hears_64 rfl ?_
              refine V.iconst (pc := 65) (z := 1) dX8_hears_65 rfl ⟨by decide, by decide⟩ ?_
              refine V.isub (pc := 66) ((((p - 1) : Nat) : Int)) dX8_hears_66 (w32_of (by omega) (by omega) (by omega)) ?_
              refine V.ia (pc := 67) (len := 16) (p - 1) ((sp' σ (p - 1) : Nat) : Int) dX8_hears_67 (kS_81) (rfl) (by omega) ((hC.2.2.2.2.1 (p - 1) (by omega)).1) ?_
              refine V.aload_n (pc := 68) 1 dX8_hears_68 rfl ?_
              refine V.gr (pc := 69) 8 6 82 flX8_22 dX8_hears_69 (kS_77) (by decide) (by decide) rfl (kR_77_6) ?_
              refine V.iload_n (pc := 72) 2 dX8_hears_72 rfl ?_
              refine V.ia (pc := 73) (len := 16) p ((he σ p : Nat) : Int) dX8_hears_73 (kS_82) (rfl) (by omega) (hCp.2.1) ?_
              refine V.icmp_ne (pc := 74) 81 dX8_hears_74 (by decide) (fun h74 => ?_) (fun h74 => ?_)
              · have hA0 : ansB σ w p = false := ansB_f (fun q => by omega)
                refine V.iconst (pc := 81) (z := 0) dX8_hears_81 rfl ⟨by decide, by decide⟩ ?_
                refine V.istore (pc := 82) (i := 4) dX8_hears_82 (by decide) (ls' := [(4, vI 0), (3, vI ((sp' σ p : Nat) : Int)), (0, vR 77), (1, vI ((p : Nat) : Int)), (2, vI (b2i first))]) rfl ?_
                refine V.iload (pc := 84) 0 dX8_hears_84 rfl ?_
                refine V.if_eq (pc := 86) 113 dX8_hears_86 (by decide) (fun h86 => ?_) (fun hc => by exact absurd hc (by decide))
                refine V.iconst (pc := 113) (z := 0) dX8_hears_113 rfl ⟨by decide, by decide⟩ ?_
                refine V.zret (pc := 114) (z := 0) dX8_hears_114 rfl (Or.inl rfl) ?_
                rw [show b2i (hearsB σ first w p) = 0 by
                  first
                  | (rw [hB_m (by omega)]; rfl)
                  | (rw [hB_X (by omega)]; done)
                  | (rw [hB_n (by omega) (encM_n h106)]; rfl)
                  | (rw [hB_s (by omega) (bt_true h97)]; rfl)
                  | (rw [hB_y (by omega) hv hbf, hA1, Bool.or_true]; rfl)
                  | (rw [hB_y (by omega) hv hbf, show (so σ (sp' σ p) != 4) = true by simp; omega]; rfl)
                  | (cases hv9 : w.1 (sp' σ p) with
                    | none => rw [hB_n (by omega) hv9]; rfl
                    | some v9 => cases hb9 : w.2.2.testBit (sp' σ p) with
                      | true => rw [hB_s (by omega) hb9]; rfl
                      | false => rw [hB_y (by omega) hv9 hb9, hA0, show (so σ (sp' σ p) != 4) = false by simp; omega]; rfl)] at hq
                exact hq
              · have hA1 : ansB σ w p = true := ansB_iff.mpr ⟨by omega, b2i_T h45, by omega, by omega⟩
                refine V.iconst (pc := 77) (z := 1) dX8_hears_77 rfl ⟨by decide, by decide⟩ ?_
                refine V.goto (pc := 78) 82 dX8_hears_78 (by decide) ?_
                refine V.istore (pc := 82) (i := 4) dX8_hears_82 (by decide) (ls' := [(4, vI 1), (3, vI ((sp' σ p : Nat) : Int)), (0, vR 77), (1, vI ((p : Nat) : Int)), (2, vI (b2i first))]) rfl ?_
                refine V.iload (pc := 84) 0 dX8_hears_84 rfl ?_
                refine V.if_eq (pc := 86) 113 dX8_hears_86 (by decide) (fun hc => by exact absurd hc (by decide)) (fun h86 => ?_)
                refine V.aload_n (pc := 89) 2 dX8_hears_89 rfl ?_
                refine V.gi (pc := 90) 8 15 ((w.2.2 : Nat) : Int) flX8_150 dX8_hears_90 (kS_77) (by decide) (by decide) rfl (hW.2.2.2) ?_
                refine V.iload_n (pc := 93) 1 dX8_hears_93 rfl ?_
                have hsw := hok.2
                refine V.ishr (pc := 94) (((w.2.2 / 2 ^ sp' σ p : Nat) : Int)) dX8_hears_94 (hN (a := w.2.2) (k := sp' σ p) (by omega) (by omega)) (rI_n (by have := Nat.div_le_self w.2.2 (2 ^ sp' σ p); omega)) ?_
                refine V.iconst (pc := 95) (z := 1) dX8_hears_95 rfl ⟨by decide, by decide⟩ ?_
                refine V.iand (pc := 96) (((w.2.2 / 2 ^ sp' σ p &&& 1 : Nat) : Int)) dX8_hears_96 (aN (w.2.2 / 2 ^ sp' σ p) 1) (rI_n (by rw [bit1]; split <;> omega)) ?_
                refine V.if_ne (pc := 97) 113 dX8_hears_97 (by decide) (fun h97 => ?_) (fun h97 => ?_)
                · skip
                  refine V.iconst (pc := 113) (z := 0) dX8_hears_113 rfl ⟨by decide, by decide⟩ ?_
                  refine V.zret (pc := 114) (z := 0) dX8_hears_114 rfl (Or.inl rfl) ?_
                  rw [show b2i (hearsB σ first w p) = 0 by
                    first
                    | (rw [hB_m (by omega)]; rfl)
                    | (rw [hB_X (by omega)]; done)
                    | (rw [hB_n (by omega) (encM_n h106)]; rfl)
                    | (rw [hB_s (by omega) (bt_true h97)]; rfl)
                    | (rw [hB_y (by omega) hv hbf, hA1, Bool.or_true]; rfl)
                    | (rw [hB_y (by omega) hv hbf, show (so σ (sp' σ p) != 4) = true by simp; omega]; rfl)
                    | (cases hv9 : w.1 (sp' σ p) with
                      | none => rw [hB_n (by omega) hv9]; rfl
                      | some v9 => cases hb9 : w.2.2.testBit (sp' σ p) with
                        | true => rw [hB_s (by omega) hb9]; rfl
                        | false => rw [hB_y (by omega) hv9 hb9, hA0, show (so σ (sp' σ p) != 4) = false by simp; omega]; rfl)] at hq
                  exact hq
                · have hbf := bt_false (show ((w.2.2 / 2 ^ sp' σ p &&& 1 : Nat) : Int) = 0 by omega)
                  refine V.aload_n (pc := 100) 2 dX8_hears_100 rfl ?_
                  refine V.gr (pc := 101) 8 14 86 flX8_34 dX8_hears_101 (kS_77) (by decide) (by decide) rfl (kR_77_14) ?_
                  refine V.iload_n (pc := 104) 1 dX8_hears_104 rfl ?_
                  refine V.ia (pc := 105) (len := 6) (sp' σ p) (encM (w.1 (sp' σ p))) dX8_hears_105 (kS_86) (rfl) (by omega) (hW.2.1 _ (by omega)) ?_
                  refine V.if_lt (pc := 106) 113 dX8_hears_106 (by decide) (fun h106 => ?_) (fun h106 => ?_)
                  · have h106 : ¬ 0 ≤ encM (w.1 (sp' σ p)) := by omega
                    refine V.iconst (pc := 113) (z := 0) dX8_hears_113 rfl ⟨by decide, by decide⟩ ?_
                    refine V.zret (pc := 114) (z := 0) dX8_hears_114 rfl (Or.inl rfl) ?_
                    rw [show b2i (hearsB σ first w p) = 0 by
                      first
                      | (rw [hB_m (by omega)]; rfl)
                      | (rw [hB_X (by omega)]; done)
                      | (rw [hB_n (by omega) (encM_n h106)]; rfl)
                      | (rw [hB_s (by omega) (bt_true h97)]; rfl)
                      | (rw [hB_y (by omega) hv hbf, hA1, Bool.or_true]; rfl)
                      | (rw [hB_y (by omega) hv hbf, show (so σ (sp' σ p) != 4) = true by simp; omega]; rfl)
                      | (cases hv9 : w.1 (sp' σ p) with
                        | none => rw [hB_n (by omega) hv9]; rfl
                        | some v9 => cases hb9 : w.2.2.testBit (sp' σ p) with
                          | true => rw [hB_s (by omega) hb9]; rfl
                          | false => rw [hB_y (by omega) hv9 hb9, hA0, show (so σ (sp' σ p) != 4) = false by simp; omega]; rfl)] at hq
                    exact hq
                  · obtain ⟨v, hv⟩ := encM_s (show 0 ≤ encM (w.1 (sp' σ p)) by omega)
                    refine V.iconst (pc := 109) (z := 1) dX8_hears_109 rfl ⟨by decide, by decide⟩ ?_
                    refine V.goto (pc := 110) 114 dX8_hears_110 (by decide) ?_
                    refine V.zret (pc := 114) (z := 1) dX8_hears_114 rfl (Or.inr rfl) ?_
                    rw [show b2i (hearsB σ first w p) = 1 by
                      first
                      | (rw [hB_m (by omega)]; rfl)
                      | (rw [hB_X (by omega)]; done)
                      | (rw [hB_n (by omega) (encM_n h106)]; rfl)
                      | (rw [hB_s (by omega) (bt_true h97)]; rfl)
                      | (rw [hB_y (by omega) hv hbf, hA1, Bool.or_true]; rfl)
                      | (rw [hB_y (by omega) hv hbf, show (so σ (sp' σ p) != 4) = true by simp; omega]; rfl)
                      | (cases hv9 : w.1 (sp' σ p) with
                        | none => rw [hB_n (by omega) hv9]; rfl
                        | some v9 => cases hb9 : w.2.2.testBit (sp' σ p) with
                          | true => rw [hB_s (by omega) hb9]; rfl
                          | false => rw [hB_y (by omega) hv9 hb9, hA0, show (so σ (sp' σ p) != 4) = false by simp; omega]; rfl)] at hq
                    exact hq
    · skip
      refine V.iload_n (pc := 21) 3 dX8_hears_21 rfl ?_
      refine V.zret (pc := 22) (z := (b2i first)) dX8_hears_22 rfl (b2i_01 first) ?_
      rw [hB_X (by omega)] at hq
      exact hq
  · skip
    refine V.iconst (pc := 13) (z := 0) dX8_hears_13 rfl ⟨by decide, by decide⟩ ?_
    refine V.zret (pc := 14) (z := 0) dX8_hears_14 rfl (Or.inl rfl) ?_
    rw [hB_m (by omega)] at hq
    exact hq

set_option maxRecDepth 100000 in
theorem c_X8_go (hi hl : HI) (σ : SG) (hC : MR hi σ) (w : WS) (p : Nat) (hp : p < nn σ) (hW : WM (hi 77) (hi 86) (hi 87) w p) (b : Nat) (hb : b < 364) (first : Bool) (y : Nat) (Q : QT) (hq : ∀ f77 f86 f87 f78 f79 : Nat → Int, (∀ j, j ≠ 1 → j ≠ 3 → j ≠ 15 → f77 j = hi 77 j) → WM f77 f86 f87 (wstep σ b first y w p) (p + 1) → Q none KW (upR (upR (upR (upR (upR hi 77 f77) 86 f86) 87 f87) 78 f78) 79 f79) hl) : Con eX8_go [vR 77, vI (p : Nat), vI (b : Nat), vI (b2i first), vI (y : Nat)] KW hi hl Q := by
  refine Con.ofV (by decide +kernel) (Nat.le_of_ble_eq_true rfl) ?_
  show V eX8_go none KW 0 [(0, vR 77), (1, vI ((p : Nat) : Int)), (2, vI ((b : Nat) : Int)), (3, vI (b2i first)), (4, vI ((y : Nat) : Int))] [] hi hl 0 0 Q
  refine V.hieq (hi' := (upR (upR (upR (upR (upR hi 77 (hi 77)) 86 (hi 86)) 87 (hi 87)) 78 (hi 78)) 79 (hi 79))) (by rw [upR_id, upR_id, upR_id, upR_id, upR_id]) ?_
  have hwf := hC.1
  have hpp := hwf.2.2.2.1 p hp
  have hn16 := hwf.2.2.1
  have hCp := hC.2.2.2.2.1 p hp
  have hok := hW.1
  have hsd := said_lt (σ := σ) (p := p) hb hok
  have hso := hwf.1 (he σ p) (by omega)
  have hsl := siF_lt (σ := σ) hok hpp.2.1
  refine V.aload_n (pc := 0) 0 dX8_go_0 rfl ?_
  refine V.gr (pc := 1) 8 16 87 flX8_37 dX8_go_1 (kS_77) (by decide) (by decide) rfl (kR_77_16) ?_
  refine V.iload_n (pc := 4) 1 dX8_go_4 rfl ?_
  refine V.aload_n (pc := 5) 0 dX8_go_5 rfl ?_
  refine V.iload_n (pc := 6) 1 dX8_go_6 rfl ?_
  refine V.iload_n (pc := 7) 3 dX8_go_7 rfl ?_
  refine V.callV (pc := 8) (e1 := eX8_hears) (o := 77) (c := 8) 2 [vI ((p : Nat) : Int), vI (b2i first)] [vI ((p : Nat) : Int), vR 87] mfX8_hears slX8_hears mlX8_153 dX8_go_8 (kS_77) (by decide) rfl rfl rfl (Nat.le_of_ble_eq_true rfl) ⟨by decide, by decide, by decide, by decide⟩ ?_
  refine c_X8_hears (upR (upR (upR (upR (upR hi 77 (hi 77)) 86 (hi 86)) 87 (hi 87)) 78 (hi 78)) 79 (hi 79)) hl σ hC w p (by omega) hW first _ ?_
  refine V.qI (pc := 8) rfl rfl ?_
  refine V.zs (pc := 11) (len := 16) (hi' := (upR (upR (upR (upR (upR hi 77 (hi 77)) 86 (hi 86)) 87 (updF (hi 87) p (b2i (hearsB σ first w p)))) 78 (hi 78)) 79 (hi 79))) p dX8_go_11 (kS_87) (rfl) (by omega) (b2i_01 _) (us (by decide) (us (by decide) u1)) ?_
  refine V.aload_n (pc := 12) 0 dX8_go_12 rfl ?_
  refine V.gr (pc := 13) 8 5 81 flX8_19 dX8_go_13 (kS_77) (by decide) (by decide) rfl (kR_77_5) ?_
  refine V.iload_n (pc := 16) 1 dX8_go_16 rfl ?_
  refine V.ia (pc := 17) (len := 16) p ((sp' σ p : Nat) : Int) dX8_go_17 (kS_81) (rfl) (by omega) (hCp.1) ?_
  refine V.bipush (pc := 18) (z := 7) dX8_go_18 (by decide +kernel) ⟨by decide, by decide⟩ ?_
  refine V.icmp_ne (pc := 20) 40 dX8_go_20 (by decide) (fun h20 => ?_) (fun h20 => ?_)
  · skip
    refine V.aload_n (pc := 40) 0 dX8_go_40 rfl ?_
    refine V.gr (pc := 41) 8 16 87 flX8_37 dX8_go_41 (kS_77) (by decide) (by decide) rfl (kR_77_16) ?_
    refine V.iload_n (pc := 44) 1 dX8_go_44 rfl ?_
    refine V.za (pc := 45) (len := 16) p (b2i (hearsB σ first w p)) dX8_go_45 (kS_87) (rfl) (by omega) (updF_s) ?_
    refine V.if_eq (pc := 46) 137 dX8_go_46 (by decide) (fun h46 => ?_) (fun h46 => ?_)
    · skip
      refine V.vret (pc := 137) dX8_go_137 rfl ?_
      exact hq _ _ _ _ _ (fun _ _ _ _ => rfl) (WM_no hwf hp hb hW (by rw [siF_n (by omega)]; exact hW.2.2.2) (updF_s) (fun j hj => updF_n (by omega)) (b2i_F h46))
    · have hhd := b2i_T h46
      have hhr := hB_heard hpp.1 hhd
      refine V.aload_n (pc := 49) 0 dX8_go_49 rfl ?_
      refine V.gr (pc := 50) 8 5 81 flX8_19 dX8_go_50 (kS_77) (by decide) (by decide) rfl (kR_77_5) ?_
      refine V.iload_n (pc := 53) 1 dX8_go_53 rfl ?_
      refine V.ia (pc := 54) (len := 16) p ((sp' σ p : Nat) : Int) dX8_go_54 (kS_81) (rfl) (by omega) (hCp.1) ?_
      refine V.bipush (pc := 55) (z := 6) dX8_go_55 (by decide +kernel) ⟨by decide, by decide⟩ ?_
      refine V.icmp_ne (pc := 57) 64 dX8_go_57 (by decide) (fun h57 => ?_) (fun h57 => ?_)
      · skip
        refine V.aload_n (pc := 64) 0 dX8_go_64 rfl ?_
        refine V.gr (pc := 65) 8 14 86 flX8_34 dX8_go_65 (kS_77) (by decide) (by decide) rfl (kR_77_14) ?_
        refine V.aload_n (pc := 68) 0 dX8_go_68 rfl ?_
        refine V.gr (pc := 69) 8 5 81 flX8_19 dX8_go_69 (kS_77) (by decide) (by decide) rfl (kR_77_5) ?_
        refine V.iload_n (pc := 72) 1 dX8_go_72 rfl ?_
        refine V.ia (pc := 73) (len := 16) p ((sp' σ p : Nat) : Int) dX8_go_73 (kS_81) (rfl) (by omega) (hCp.1) ?_
        obtain ⟨hlt6, v, hv⟩ : sp' σ p < 6 ∧ ∃ v, w.1 (sp' σ p) = some v := by rcases hhr with q | q; { omega }; { exact q }
        refine V.ia (pc := 74) (len := 6) (sp' σ p) ((saidF σ b w p : Nat) : Int) dX8_go_74 (kS_86) (rfl) (by omega) (by show hi 86 (sp' σ p) = _; rw [hW.2.1 _ hlt6, hv, show saidF σ b w p = v by unfold saidF; rw [if_neg (by omega), hv]; rfl]; rfl) ?_
        refine V.istore (pc := 75) (i := 5) dX8_go_75 (by decide) (ls' := [(5, vI ((saidF σ b w p : Nat) : Int)), (0, vR 77), (1, vI ((p : Nat) : Int)), (2, vI ((b : Nat) : Int)), (3, vI (b2i first)), (4, vI ((y : Nat) : Int))]) rfl ?_
        refine V.iload (pc := 77) 5 dX8_go_77 rfl ?_
        refine V.if_le (pc := 79) 124 dX8_go_79 (by decide) (fun h79 => ?_) (fun h79 => ?_)
        · skip
          refine V.aload_n (pc := 124) 1 dX8_go_124 rfl ?_
          refine V.gr (pc := 125) 8 14 86 flX8_34 dX8_go_125 (kS_77) (by decide) (by decide) rfl (kR_77_14) ?_
          refine V.aload_n (pc := 128) 1 dX8_go_128 rfl ?_
          refine V.gr (pc := 129) 8 6 82 flX8_22 dX8_go_129 (kS_77) (by decide) (by decide) rfl (kR_77_6) ?_
          refine V.iload_n (pc := 132) 2 dX8_go_132 rfl ?_
          refine V.ia (pc := 133) (len := 16) p ((he σ p : Nat) : Int) dX8_go_133 (kS_82) (rfl) (by omega) (hCp.2.1) ?_
          refine V.iload (pc := 134) 0 dX8_go_134 rfl ?_
          refine V.is (pc := 136) (len := 6) (hi' := (upR (upR (upR (upR (upR hi 77 (hi 77)) 86 (updF (hi 86) (he σ p) ((saidF σ b w p : Nat) : Int))) 87 (updF (hi 87) p (b2i (hearsB σ first w p)))) 78 (hi 78)) 79 (hi 79))) (he σ p) dX8_go_136 (kS_86) (rfl) (by omega) (us (by decide) (us (by decide) (us (by decide) u1))) ?_
          refine V.vret (pc := 137) dX8_go_137 rfl ?_
          exact hq _ _ _ _ _ (fun _ _ _ _ => rfl) (WM_yes hwf hp hb hW (by rw [siF_n (by omega)]; exact hW.2.2.2) (updF_s) (fun j hj => updF_n (by omega)) hhd (by rw [nth_0 (by omega)]))
        · skip
          refine V.aload_n (pc := 82) 1 dX8_go_82 rfl ?_
          refine V.aload_n (pc := 83) 1 dX8_go_83 rfl ?_
          refine V.gr (pc := 84) 8 4 80 flX8_16 dX8_go_84 (kS_77) (by decide) (by decide) rfl (kR_77_4) ?_
          refine V.aload_n (pc := 87) 1 dX8_go_87 rfl ?_
          refine V.gr (pc := 88) 8 6 82 flX8_22 dX8_go_88 (kS_77) (by decide) (by decide) rfl (kR_77_6) ?_
          refine V.iload_n (pc := 91) 2 dX8_go_91 rfl ?_
          refine V.ia (pc := 92) (len := 16) p ((he σ p : Nat) : Int) dX8_go_92 (kS_82) (rfl) (by omega) (hCp.2.1) ?_
          refine V.ia (pc := 93) (len := 6) (he σ p) ((so σ (he σ p) : Nat) : Int) dX8_go_93 (kS_80) (rfl) (by omega) (hC.2.1 _ (by omega)) ?_
          refine V.iload (pc := 94) 0 dX8_go_94 rfl ?_
          refine V.callV (pc := 96) (e1 := eX8_findSlips) (o := 77) (c := 8) 2 [vI ((so σ (he σ p) : Nat) : Int), vI ((saidF σ b w p : Nat) : Int)] [] mfX8_findSlips slX8_findSlips mlX8_144 dX8_go_96 (kS_77) (by decide) rfl rfl rfl (Nat.le_of_ble_eq_true rfl) ⟨by decide, by decide, by decide, by decide⟩ ?_
          refine c_X8_findSlips (upR (upR (upR (upR (upR hi 77 (hi 77)) 86 (hi 86)) 87 (updF (hi 87) p (b2i (hearsB σ first w p)))) 78 (hi 78)) 79 (hi 79)) hl (so σ (he σ p)) (saidF σ b w p) (by omega) (by omega) _ (fun fs gs gw hs1 hs2 hs3 => ?_)
          have hs1 : ∀ j, j ≠ 1 → j ≠ 3 → fs j = (hi 77) j := hs1
          refine V.qV (pc := 96) rfl rfl ?_
          refine V.hieq (hi' := (upR (upR (upR (upR (upR hi 77 fs) 86 (hi 86)) 87 (updF (hi 87) p (b2i (hearsB σ first w p)))) 78 gw) 79 gs)) ((upR_c ((upR_c (rs (by decide) (rs (by decide) (rs (by decide) (rs (by decide) r1))))).trans (rs (by decide) r1))).trans r1) ?_
          refine V.iload (pc := 99) 5 dX8_go_99 rfl ?_
          refine V.aload_n (pc := 101) 1 dX8_go_101 rfl ?_
          refine V.gi (pc := 102) 8 3 ((slN (so σ (he σ p)) (saidF σ b w p) : Nat) : Int) flX8_90 dX8_go_102 (kS_77) (by decide) (by decide) rfl (hs2) ?_
          refine V.icmp_gt (pc := 105) 120 dX8_go_105 (by decide) (fun h105 => ?_) (fun h105 => ?_)
          · skip
            refine V.iload (pc := 120) 0 dX8_go_120 rfl ?_
            refine V.top (v' := vI ((nth (so σ (he σ p)) (saidF σ b w p) y : Nat) : Int)) (by rw [nth_0 (by omega)]) ?_
            refine V.istore (pc := 122) (i := 5) dX8_go_122 (by decide) (ls' := [(5, vI ((nth (so σ (he σ p)) (saidF σ b w p) y : Nat) : Int)), (0, vR 77), (1, vI ((p : Nat) : Int)), (2, vI ((b : Nat) : Int)), (3, vI (b2i first)), (4, vI ((y : Nat) : Int))]) rfl ?_
            refine V.aload_n (pc := 124) 1 dX8_go_124 rfl ?_
            refine V.gr (pc := 125) 8 14 86 flX8_34 dX8_go_125 (kS_77) (by decide) (by decide) rfl (kR_77_14) ?_
            refine V.aload_n (pc := 128) 1 dX8_go_128 rfl ?_
            refine V.gr (pc := 129) 8 6 82 flX8_22 dX8_go_129 (kS_77) (by decide) (by decide) rfl (kR_77_6) ?_
            refine V.iload_n (pc := 132) 2 dX8_go_132 rfl ?_
            refine V.ia (pc := 133) (len := 16) p ((he σ p : Nat) : Int) dX8_go_133 (kS_82) (rfl) (by omega) (hCp.2.1) ?_
            refine V.iload (pc := 134) 0 dX8_go_134 rfl ?_
            refine V.is (pc := 136) (len := 6) (hi' := (upR (upR (upR (upR (upR hi 77 fs) 86 (updF (hi 86) (he σ p) ((nth (so σ (he σ p)) (saidF σ b w p) y : Nat) : Int))) 87 (updF (hi 87) p (b2i (hearsB σ first w p)))) 78 gw) 79 gs)) (he σ p) dX8_go_136 (kS_86) (rfl) (by omega) (us (by decide) (us (by decide) (us (by decide) u1))) ?_
            refine V.vret (pc := 137) dX8_go_137 rfl ?_
            exact hq _ _ _ _ _ (fun j h1 h3 h15 => hs1 j h1 h3) (WM_yes hwf hp hb hW (by rw [siF_n (by omega), hs1 15 (by decide) (by decide)]; exact hW.2.2.2) (updF_s) (fun j hj => updF_n (by omega)) hhd (rfl))
          · skip
            refine V.aload_n (pc := 108) 1 dX8_go_108 rfl ?_
            refine V.gr (pc := 109) 8 2 79 flX8_13 dX8_go_109 (kS_77) (by decide) (by decide) rfl (kR_77_2) ?_
            refine V.iload (pc := 112) 5 dX8_go_112 rfl ?_
            refine V.iconst (pc := 114) (z := 1) dX8_go_114 rfl ⟨by decide, by decide⟩ ?_
            have h15 := slN_15 hso hsd
            refine V.isub (pc := 115) ((((y - 1) : Nat) : Int)) dX8_go_115 (subN (a := y) (b := 1) (by omega) (by omega)) ?_
            refine V.ia (pc := 116) (len := 40) (y - 1) ((nth (so σ (he σ p)) (saidF σ b w p) y : Nat) : Int) dX8_go_116 (kS_79) (rfl) (by omega) (by rw [nth_in (by omega)]; exact hs3 _ (by omega)) ?_
            refine V.goto (pc := 117) 122 dX8_go_117 (by decide) ?_
            refine V.istore (pc := 122) (i := 5) dX8_go_122 (by decide) (ls' := [(5, vI ((nth (so σ (he σ p)) (saidF σ b w p) y : Nat) : Int)), (0, vR 77), (1, vI ((p : Nat) : Int)), (2, vI ((b : Nat) : Int)), (3, vI (b2i first)), (4, vI ((y : Nat) : Int))]) rfl ?_
            refine V.aload_n (pc := 124) 1 dX8_go_124 rfl ?_
            refine V.gr (pc := 125) 8 14 86 flX8_34 dX8_go_125 (kS_77) (by decide) (by decide) rfl (kR_77_14) ?_
            refine V.aload_n (pc := 128) 1 dX8_go_128 rfl ?_
            refine V.gr (pc := 129) 8 6 82 flX8_22 dX8_go_129 (kS_77) (by decide) (by decide) rfl (kR_77_6) ?_
            refine V.iload_n (pc := 132) 2 dX8_go_132 rfl ?_
            refine V.ia (pc := 133) (len := 16) p ((he σ p : Nat) : Int) dX8_go_133 (kS_82) (rfl) (by omega) (hCp.2.1) ?_
            refine V.iload (pc := 134) 0 dX8_go_134 rfl ?_
            refine V.is (pc := 136) (len := 6) (hi' := (upR (upR (upR (upR (upR hi 77 fs) 86 (updF (hi 86) (he σ p) ((nth (so σ (he σ p)) (saidF σ b w p) y : Nat) : Int))) 87 (updF (hi 87) p (b2i (hearsB σ first w p)))) 78 gw) 79 gs)) (he σ p) dX8_go_136 (kS_86) (rfl) (by omega) (us (by decide) (us (by decide) (us (by decide) u1))) ?_
            refine V.vret (pc := 137) dX8_go_137 rfl ?_
            exact hq _ _ _ _ _ (fun j h1 h3 h15 => hs1 j h1 h3) (WM_yes hwf hp hb hW (by rw [siF_n (by omega), hs1 15 (by decide) (by decide)]; exact hW.2.2.2) (updF_s) (fun j hj => updF_n (by omega)) hhd (rfl))
      · skip
        refine V.iload_n (pc := 60) 2 dX8_go_60 rfl ?_
        refine V.top (v' := vI ((saidF σ b w p : Nat) : Int)) (by rw [show saidF σ b w p = b by unfold saidF; rw [if_pos (by omega)]]) ?_
        refine V.goto (pc := 61) 75 dX8_go_61 (by decide) ?_
        refine V.istore (pc := 75) (i := 5) dX8_go_75 (by decide) (ls' := [(5, vI ((saidF σ b w p : Nat) : Int)), (0, vR 77), (1, vI ((p : Nat) : Int)), (2, vI ((b : Nat) : Int)), (3, vI (b2i first)), (4, vI ((y : Nat) : Int))]) rfl ?_
        refine V.iload (pc := 77) 5 dX8_go_77 rfl ?_
        refine V.if_le (pc := 79) 124 dX8_go_79 (by decide) (fun h79 => ?_) (fun h79 => ?_)
        · skip
          refine V.aload_n (pc := 124) 1 dX8_go_124 rfl ?_
          refine V.gr (pc := 125) 8 14 86 flX8_34 dX8_go_125 (kS_77) (by decide) (by decide) rfl (kR_77_14) ?_
          refine V.aload_n (pc := 128) 1 dX8_go_128 rfl ?_
          refine V.gr (pc := 129) 8 6 82 flX8_22 dX8_go_129 (kS_77) (by decide) (by decide) rfl (kR_77_6) ?_
          refine V.iload_n (pc := 132) 2 dX8_go_132 rfl ?_
          refine V.ia (pc := 133) (len := 16) p ((he σ p : Nat) : Int) dX8_go_133 (kS_82) (rfl) (by omega) (hCp.2.1) ?_
          refine V.iload (pc := 134) 0 dX8_go_134 rfl ?_
          refine V.is (pc := 136) (len := 6) (hi' := (upR (upR (upR (upR (upR hi 77 (hi 77)) 86 (updF (hi 86) (he σ p) ((saidF σ b w p : Nat) : Int))) 87 (updF (hi 87) p (b2i (hearsB σ first w p)))) 78 (hi 78)) 79 (hi 79))) (he σ p) dX8_go_136 (kS_86) (rfl) (by omega) (us (by decide) (us (by decide) (us (by decide) u1))) ?_
          refine V.vret (pc := 137) dX8_go_137 rfl ?_
          exact hq _ _ _ _ _ (fun _ _ _ _ => rfl) (WM_yes hwf hp hb hW (by rw [siF_n (by omega)]; exact hW.2.2.2) (updF_s) (fun j hj => updF_n (by omega)) hhd (by rw [nth_0 (by omega)]))
        · skip
          refine V.aload_n (pc := 82) 1 dX8_go_82 rfl ?_
          refine V.aload_n (pc := 83) 1 dX8_go_83 rfl ?_
          refine V.gr (pc := 84) 8 4 80 flX8_16 dX8_go_84 (kS_77) (by decide) (by decide) rfl (kR_77_4) ?_
          refine V.aload_n (pc := 87) 1 dX8_go_87 rfl ?_
          refine V.gr (pc := 88) 8 6 82 flX8_22 dX8_go_88 (kS_77) (by decide) (by decide) rfl (kR_77_6) ?_
          refine V.iload_n (pc := 91) 2 dX8_go_91 rfl ?_
          refine V.ia (pc := 92) (len := 16) p ((he σ p : Nat) : Int) dX8_go_92 (kS_82) (rfl) (by omega) (hCp.2.1) ?_
          refine V.ia (pc := 93) (len := 6) (he σ p) ((so σ (he σ p) : Nat) : Int) dX8_go_93 (kS_80) (rfl) (by omega) (hC.2.1 _ (by omega)) ?_
          refine V.iload (pc := 94) 0 dX8_go_94 rfl ?_
          refine V.callV (pc := 96) (e1 := eX8_findSlips) (o := 77) (c := 8) 2 [vI ((so σ (he σ p) : Nat) : Int), vI ((saidF σ b w p : Nat) : Int)] [] mfX8_findSlips slX8_findSlips mlX8_144 dX8_go_96 (kS_77) (by decide) rfl rfl rfl (Nat.le_of_ble_eq_true rfl) ⟨by decide, by decide, by decide, by decide⟩ ?_
          refine c_X8_findSlips (upR (upR (upR (upR (upR hi 77 (hi 77)) 86 (hi 86)) 87 (updF (hi 87) p (b2i (hearsB σ first w p)))) 78 (hi 78)) 79 (hi 79)) hl (so σ (he σ p)) (saidF σ b w p) (by omega) (by omega) _ (fun fs gs gw hs1 hs2 hs3 => ?_)
          have hs1 : ∀ j, j ≠ 1 → j ≠ 3 → fs j = (hi 77) j := hs1
          refine V.qV (pc := 96) rfl rfl ?_
          refine V.hieq (hi' := (upR (upR (upR (upR (upR hi 77 fs) 86 (hi 86)) 87 (updF (hi 87) p (b2i (hearsB σ first w p)))) 78 gw) 79 gs)) ((upR_c ((upR_c (rs (by decide) (rs (by decide) (rs (by decide) (rs (by decide) r1))))).trans (rs (by decide) r1))).trans r1) ?_
          refine V.iload (pc := 99) 5 dX8_go_99 rfl ?_
          refine V.aload_n (pc := 101) 1 dX8_go_101 rfl ?_
          refine V.gi (pc := 102) 8 3 ((slN (so σ (he σ p)) (saidF σ b w p) : Nat) : Int) flX8_90 dX8_go_102 (kS_77) (by decide) (by decide) rfl (hs2) ?_
          refine V.icmp_gt (pc := 105) 120 dX8_go_105 (by decide) (fun h105 => ?_) (fun h105 => ?_)
          · skip
            refine V.iload (pc := 120) 0 dX8_go_120 rfl ?_
            refine V.top (v' := vI ((nth (so σ (he σ p)) (saidF σ b w p) y : Nat) : Int)) (by rw [nth_0 (by omega)]) ?_
            refine V.istore (pc := 122) (i := 5) dX8_go_122 (by decide) (ls' := [(5, vI ((nth (so σ (he σ p)) (saidF σ b w p) y : Nat) : Int)), (0, vR 77), (1, vI ((p : Nat) : Int)), (2, vI ((b : Nat) : Int)), (3, vI (b2i first)), (4, vI ((y : Nat) : Int))]) rfl ?_
            refine V.aload_n (pc := 124) 1 dX8_go_124 rfl ?_
            refine V.gr (pc := 125) 8 14 86 flX8_34 dX8_go_125 (kS_77) (by decide) (by decide) rfl (kR_77_14) ?_
            refine V.aload_n (pc := 128) 1 dX8_go_128 rfl ?_
            refine V.gr (pc := 129) 8 6 82 flX8_22 dX8_go_129 (kS_77) (by decide) (by decide) rfl (kR_77_6) ?_
            refine V.iload_n (pc := 132) 2 dX8_go_132 rfl ?_
            refine V.ia (pc := 133) (len := 16) p ((he σ p : Nat) : Int) dX8_go_133 (kS_82) (rfl) (by omega) (hCp.2.1) ?_
            refine V.iload (pc := 134) 0 dX8_go_134 rfl ?_
            refine V.is (pc := 136) (len := 6) (hi' := (upR (upR (upR (upR (upR hi 77 fs) 86 (updF (hi 86) (he σ p) ((nth (so σ (he σ p)) (saidF σ b w p) y : Nat) : Int))) 87 (updF (hi 87) p (b2i (hearsB σ first w p)))) 78 gw) 79 gs)) (he σ p) dX8_go_136 (kS_86) (rfl) (by omega) (us (by decide) (us (by decide) (us (by decide) u1))) ?_
            refine V.vret (pc := 137) dX8_go_137 rfl ?_
            exact hq _ _ _ _ _ (fun j h1 h3 h15 => hs1 j h1 h3) (WM_yes hwf hp hb hW (by rw [siF_n (by omega), hs1 15 (by decide) (by decide)]; exact hW.2.2.2) (updF_s) (fun j hj => updF_n (by omega)) hhd (rfl))
          · skip
            refine V.aload_n (pc := 108) 1 dX8_go_108 rfl ?_
            refine V.gr (pc := 109) 8 2 79 flX8_13 dX8_go_109 (kS_77) (by decide) (by decide) rfl (kR_77_2) ?_
            refine V.iload (pc := 112) 5 dX8_go_112 rfl ?_
            refine V.iconst (pc := 114) (z := 1) dX8_go_114 rfl ⟨by decide, by decide⟩ ?_
            have h15 := slN_15 hso hsd
            refine V.isub (pc := 115) ((((y - 1) : Nat) : Int)) dX8_go_115 (subN (a := y) (b := 1) (by omega) (by omega)) ?_
            refine V.ia (pc := 116) (len := 40) (y - 1) ((nth (so σ (he σ p)) (saidF σ b w p) y : Nat) : Int) dX8_go_116 (kS_79) (rfl) (by omega) (by rw [nth_in (by omega)]; exact hs3 _ (by omega)) ?_
            refine V.goto (pc := 117) 122 dX8_go_117 (by decide) ?_
            refine V.istore (pc := 122) (i := 5) dX8_go_122 (by decide) (ls' := [(5, vI ((nth (so σ (he σ p)) (saidF σ b w p) y : Nat) : Int)), (0, vR 77), (1, vI ((p : Nat) : Int)), (2, vI ((b : Nat) : Int)), (3, vI (b2i first)), (4, vI ((y : Nat) : Int))]) rfl ?_
            refine V.aload_n (pc := 124) 1 dX8_go_124 rfl ?_
            refine V.gr (pc := 125) 8 14 86 flX8_34 dX8_go_125 (kS_77) (by decide) (by decide) rfl (kR_77_14) ?_
            refine V.aload_n (pc := 128) 1 dX8_go_128 rfl ?_
            refine V.gr (pc := 129) 8 6 82 flX8_22 dX8_go_129 (kS_77) (by decide) (by decide) rfl (kR_77_6) ?_
            refine V.iload_n (pc := 132) 2 dX8_go_132 rfl ?_
            refine V.ia (pc := 133) (len := 16) p ((he σ p : Nat) : Int) dX8_go_133 (kS_82) (rfl) (by omega) (hCp.2.1) ?_
            refine V.iload (pc := 134) 0 dX8_go_134 rfl ?_
            refine V.is (pc := 136) (len := 6) (hi' := (upR (upR (upR (upR (upR hi 77 fs) 86 (updF (hi 86) (he σ p) ((nth (so σ (he σ p)) (saidF σ b w p) y : Nat) : Int))) 87 (updF (hi 87) p (b2i (hearsB σ first w p)))) 78 gw) 79 gs)) (he σ p) dX8_go_136 (kS_86) (rfl) (by omega) (us (by decide) (us (by decide) (us (by decide) u1))) ?_
            refine V.vret (pc := 137) dX8_go_137 rfl ?_
            exact hq _ _ _ _ _ (fun j h1 h3 h15 => hs1 j h1 h3) (WM_yes hwf hp hb hW (by rw [siF_n (by omega), hs1 15 (by decide) (by decide)]; exact hW.2.2.2) (updF_s) (fun j hj => updF_n (by omega)) hhd (rfl))
  · skip
    refine V.aload_n (pc := 23) 0 dX8_go_23 rfl ?_
    refine V.dup (pc := 24) dX8_go_24 rfl ?_
    refine V.gi (pc := 25) 8 15 ((w.2.2 : Nat) : Int) flX8_150 dX8_go_25 (kS_77) (by decide) (by decide) rfl (hW.2.2.2) ?_
    refine V.iconst (pc := 28) (z := 1) dX8_go_28 rfl ⟨by decide, by decide⟩ ?_
    refine V.aload_n (pc := 29) 0 dX8_go_29 rfl ?_
    refine V.gr (pc := 30) 8 6 82 flX8_22 dX8_go_30 (kS_77) (by decide) (by decide) rfl (kR_77_6) ?_
    refine V.iload_n (pc := 33) 1 dX8_go_33 rfl ?_
    refine V.ia (pc := 34) (len := 16) p ((he σ p : Nat) : Int) dX8_go_34 (kS_82) (rfl) (by omega) (hCp.2.1) ?_
    have hpw := Nat.pow_le_pow_right (show 0 < 2 by omega) hpp.2.1
    refine V.ishl (pc := 35) (((1 * 2 ^ he σ p : Nat) : Int)) dX8_go_35 (sN (a := 1) (by omega) (by omega)) (rI_n (by omega)) ?_
    refine V.ixor (pc := 36) (((siF σ w p : Nat) : Int)) dX8_go_36 (by rw [siF_m (by omega)]; exact xN w.2.2 (1 * 2 ^ he σ p)) (rI_n (by omega)) ?_
    refine V.pi (pc := 37) (hi' := (upR (upR (upR (upR (upR hi 77 (updF (hi 77) 15 ((siF σ w p : Nat) : Int))) 86 (hi 86)) 87 (updF (hi 87) p (b2i (hearsB σ first w p)))) 78 (hi 78)) 79 (hi 79))) 8 15 flX8_150 dX8_go_37 (kS_77) (by decide) (by decide) rfl rfl (us (by decide) (us (by decide) (us (by decide) (us (by decide) u1)))) ?_
    refine V.aload_n (pc := 40) 0 dX8_go_40 rfl ?_
    refine V.gr (pc := 41) 8 16 87 flX8_37 dX8_go_41 (kS_77) (by decide) (by decide) rfl (kR_77_16) ?_
    refine V.iload_n (pc := 44) 1 dX8_go_44 rfl ?_
    refine V.za (pc := 45) (len := 16) p (b2i (hearsB σ first w p)) dX8_go_45 (kS_87) (rfl) (by omega) (updF_s) ?_
    refine V.if_eq (pc := 46) 137 dX8_go_46 (by decide) (fun h46 => ?_) (fun hc => by exact absurd hc (by rw [hB_m (by omega)]; decide))
    refine V.vret (pc := 137) dX8_go_137 rfl ?_
    exact hq _ _ _ _ _ (fun j _ _ h15 => updF_n h15) (WM_no hwf hp hb hW (updF_s) (updF_s) (fun j hj => updF_n (by omega)) (b2i_F h46))

set_option maxRecDepth 100000 in
theorem c_X8_goDay (hi hl : HI) (σ : SG) (hC : MR hi σ) (b : Nat) (hb : b < 364) (a : Int) (y : Nat) (Q : QT) (hq : ∀ f77 f86 f87 f78 f79 : Nat → Int, (∀ j, j ≠ 1 → j ≠ 3 → j ≠ 15 → f77 j = hi 77 j) → WM f77 f86 f87 (wrun σ b true (bysF σ a y) wZ (nn σ)) (nn σ) → Q none KW (upR (upR (upR (upR (upR hi 77 f77) 86 f86) 87 f87) 78 f78) 79 f79) hl) : Con eX8_goDay [vR 77, vI (b : Nat), vI a, vI (y : Nat)] KW hi hl Q := by
  refine Con.ofV (by decide +kernel) (Nat.le_of_ble_eq_true rfl) ?_
  show V eX8_goDay none KW 0 [(0, vR 77), (1, vI ((b : Nat) : Int)), (2, vI a), (3, vI ((y : Nat) : Int))] [] hi hl 0 0 Q
  refine V.hieq (hi' := (upR (upR (upR (upR (upR hi 77 (hi 77)) 86 (hi 86)) 87 (hi 87)) 78 (hi 78)) 79 (hi 79))) (by rw [upR_id, upR_id, upR_id, upR_id, upR_id]) ?_
  have hwf := hC.1
  have hn16 := hwf.2.2.1
  refine V.aload_n (pc := 0) 0 dX8_goDay_0 rfl ?_
  refine V.callV (pc := 1) (e1 := eX8_forget) (o := 77) (c := 8) 0 [] [] mfX8_forget slX8_forget mlX8_157 dX8_goDay_1 (kS_77) (by decide) rfl rfl rfl (Nat.le_of_ble_eq_true rfl) ⟨by decide, by decide, by decide, by decide⟩ ?_
  refine c_X8_forget (upR (upR (upR (upR (upR hi 77 (hi 77)) 86 (hi 86)) 87 (hi 87)) 78 (hi 78)) 79 (hi 79)) hl _ (fun fF hFo => ?_)
  refine V.qV (pc := 1) rfl rfl ?_
  refine V.hieq (hi' := (upR (upR (upR (upR (upR hi 77 (hi 77)) 86 fF) 87 (hi 87)) 78 (hi 78)) 79 (hi 79))) (rs (by decide) (rs (by decide) (rs (by decide) r1))) ?_
  refine V.aload_n (pc := 4) 0 dX8_goDay_4 rfl ?_
  refine V.iconst (pc := 5) (z := 0) dX8_goDay_5 rfl ⟨by decide, by decide⟩ ?_
  refine V.pi (pc := 6) (hi' := (upR (upR (upR (upR (upR hi 77 (updF (hi 77) 15 0)) 86 fF) 87 (hi 87)) 78 (hi 78)) 79 (hi 79))) 8 15 flX8_150 dX8_goDay_6 (kS_77) (by decide) (by decide) rfl rfl (us (by decide) (us (by decide) (us (by decide) (us (by decide) u1)))) ?_
  refine V.iconst (pc := 9) (z := 0) dX8_goDay_9 rfl ⟨by decide, by decide⟩ ?_
  refine V.istore (pc := 10) (i := 4) dX8_goDay_10 (by decide) (ls' := [(4, vI 0), (0, vR 77), (1, vI ((b : Nat) : Int)), (2, vI a), (3, vI ((y : Nat) : Int))]) rfl ?_
  have lp12 : ∀ (fu12 : Nat) (k : Nat) (r77 : Nat → Int) (r86 : Nat → Int) (r87 : Nat → Int) (r78 : Nat → Int) (r79 : Nat → Int), (k ≤ nn σ) → (∀ j, j ≠ 1 → j ≠ 3 → j ≠ 15 → r77 j = hi 77 j) → (WM r77 r86 r87 (wrun σ b true (bysF σ a y) wZ k) k) → nn σ - k < fu12 → V eX8_goDay none KW 12 [(0, vR 77), (1, vI ((b : Nat) : Int)), (2, vI a), (3, vI ((y : Nat) : Int)), (4, vI ((k : Nat) : Int))] [] (upR (upR (upR (upR (upR hi 77 r77) 86 r86) 87 r87) 78 r78) 79 r79) hl 0 0 Q := by
    intro fu12
    induction fu12 with
    | zero => intro k r77 r86 r87 r78 r79 hk hr hW hm12; exact absurd hm12 (Nat.not_lt_zero _)
    | succ fu12 ih12 =>
      intro k r77 r86 r87 r78 r79 hk hr hW hm12
      refine V.iload (pc := 12) 4 dX8_goDay_12 rfl ?_
      refine V.aload_n (pc := 14) 0 dX8_goDay_14 rfl ?_
      refine V.gi (pc := 15) 8 8 ((nn σ : Nat) : Int) flX8_138 dX8_goDay_15 (kS_77) (by decide) (by decide) rfl ((hr 8 (by decide) (by decide) (by decide)).trans hC.2.2.2.1) ?_
      refine V.icmp_ge (pc := 18) 60 dX8_goDay_18 (by decide) (fun h18 => ?_) (fun h18 => ?_)
      · skip
        refine V.vret (pc := 60) dX8_goDay_60 rfl ?_
        have e : k = nn σ := by omega
        subst e
        exact hq _ _ _ _ _ hr hW
      · skip
        refine V.aload_n (pc := 21) 0 dX8_goDay_21 rfl ?_
        refine V.iload (pc := 22) 4 dX8_goDay_22 rfl ?_
        refine V.iload_n (pc := 24) 1 dX8_goDay_24 rfl ?_
        refine V.iconst (pc := 25) (z := 1) dX8_goDay_25 rfl ⟨by decide, by decide⟩ ?_
        refine V.iload_n (pc := 26) 2 dX8_goDay_26 rfl ?_
        refine V.if_ge (pc := 27) 40 dX8_goDay_27 (by decide) (fun h27 => ?_) (fun h27 => ?_)
        · skip
          refine V.iload (pc := 40) 4 dX8_goDay_40 rfl ?_
          refine V.iload_n (pc := 42) 2 dX8_goDay_42 rfl ?_
          refine V.icmp_ne (pc := 43) 50 dX8_goDay_43 (by decide) (fun h43 => ?_) (fun h43 => ?_)
          · skip
            refine V.iconst (pc := 50) (z := 0) dX8_goDay_50 rfl ⟨by decide, by decide⟩ ?_
            refine V.top (v' := vI ((bysF σ a y k : Nat) : Int)) (by rw [show bysF σ a y k = 0 by unfold bysF; rw [if_neg (by omega), if_neg (by omega)]]; rfl) ?_
            refine V.callV (pc := 51) (e1 := eX8_go) (o := 77) (c := 8) 4 [vI ((k : Nat) : Int), vI ((b : Nat) : Int), vI 1, vI ((bysF σ a y k : Nat) : Int)] [] mfX8_go slX8_go mlX8_160 dX8_goDay_51 (kS_77) (by decide) rfl rfl rfl (Nat.le_of_ble_eq_true rfl) ⟨by decide, by decide, by decide, by decide⟩ ?_
            refine c_X8_go (upR (upR (upR (upR (upR hi 77 r77) 86 r86) 87 r87) 78 r78) 79 r79) hl σ (MR_up hC (hr 8 (by decide) (by decide) (by decide)) (hr 9 (by decide) (by decide) (by decide)) (hr 11 (by decide) (by decide) (by decide)) rfl rfl rfl rfl rfl) (wrun σ b true (bysF σ a y) wZ k) k (by omega) hW b (by omega) true (bysF σ a y k) _ (fun f77 f86 f87 f78 f79 hgo hgW => ?_)
            refine V.qV (pc := 51) rfl rfl ?_
            refine V.hieq (hi' := (upR (upR (upR (upR (upR hi 77 f77) 86 f86) 87 f87) 78 f78) 79 f79)) ((upR_c ((upR_c ((upR_c ((upR_c (rs (by decide) (rs (by decide) (rs (by decide) (rs (by decide) r1))))).trans (rs (by decide) (rs (by decide) (rs (by decide) r1))))).trans (rs (by decide) (rs (by decide) r1)))).trans (rs (by decide) r1))).trans r1) ?_
            refine V.iinc (pc := 54) (r := ((k + 1 : Nat) : Int)) 4 dX8_goDay_54 rfl (w32_of (by omega) (by omega) (by omega)) (by decide) (ls' := [(4, vI ((k + 1 : Nat) : Int)), (0, vR 77), (1, vI ((b : Nat) : Int)), (2, vI a), (3, vI ((y : Nat) : Int))]) rfl ?_
            refine V.goto (pc := 57) 12 dX8_goDay_57 (by decide) ?_
            refine V.locs [1, 2, 3, 4, 0] (ls' := [(0, vR 77), (1, vI ((b : Nat) : Int)), (2, vI a), (3, vI ((y : Nat) : Int)), (4, vI ((k + 1 : Nat) : Int))]) rfl ?_
            exact ih12 (k + 1) f77 f86 f87 f78 f79 (by omega) (fun j h1 h3 h15 => (hgo j h1 h3 h15).trans (hr j h1 h3 h15)) (hgW) (by omega)
          · skip
            refine V.iload_n (pc := 46) 3 dX8_goDay_46 rfl ?_
            refine V.top (v' := vI ((bysF σ a y k : Nat) : Int)) (by rw [show bysF σ a y k = y by unfold bysF; rw [if_neg (by omega), if_pos (by omega)]]) ?_
            refine V.goto (pc := 47) 51 dX8_goDay_47 (by decide) ?_
            refine V.callV (pc := 51) (e1 := eX8_go) (o := 77) (c := 8) 4 [vI ((k : Nat) : Int), vI ((b : Nat) : Int), vI 1, vI ((bysF σ a y k : Nat) : Int)] [] mfX8_go slX8_go mlX8_160 dX8_goDay_51 (kS_77) (by decide) rfl rfl rfl (Nat.le_of_ble_eq_true rfl) ⟨by decide, by decide, by decide, by decide⟩ ?_
            refine c_X8_go (upR (upR (upR (upR (upR hi 77 r77) 86 r86) 87 r87) 78 r78) 79 r79) hl σ (MR_up hC (hr 8 (by decide) (by decide) (by decide)) (hr 9 (by decide) (by decide) (by decide)) (hr 11 (by decide) (by decide) (by decide)) rfl rfl rfl rfl rfl) (wrun σ b true (bysF σ a y) wZ k) k (by omega) hW b (by omega) true (bysF σ a y k) _ (fun f77 f86 f87 f78 f79 hgo hgW => ?_)
            refine V.qV (pc := 51) rfl rfl ?_
            refine V.hieq (hi' := (upR (upR (upR (upR (upR hi 77 f77) 86 f86) 87 f87) 78 f78) 79 f79)) ((upR_c ((upR_c ((upR_c ((upR_c (rs (by decide) (rs (by decide) (rs (by decide) (rs (by decide) r1))))).trans (rs (by decide) (rs (by decide) (rs (by decide) r1))))).trans (rs (by decide) (rs (by decide) r1)))).trans (rs (by decide) r1))).trans r1) ?_
            refine V.iinc (pc := 54) (r := ((k + 1 : Nat) : Int)) 4 dX8_goDay_54 rfl (w32_of (by omega) (by omega) (by omega)) (by decide) (ls' := [(4, vI ((k + 1 : Nat) : Int)), (0, vR 77), (1, vI ((b : Nat) : Int)), (2, vI a), (3, vI ((y : Nat) : Int))]) rfl ?_
            refine V.goto (pc := 57) 12 dX8_goDay_57 (by decide) ?_
            refine V.locs [1, 2, 3, 4, 0] (ls' := [(0, vR 77), (1, vI ((b : Nat) : Int)), (2, vI a), (3, vI ((y : Nat) : Int)), (4, vI ((k + 1 : Nat) : Int))]) rfl ?_
            exact ih12 (k + 1) f77 f86 f87 f78 f79 (by omega) (fun j h1 h3 h15 => (hgo j h1 h3 h15).trans (hr j h1 h3 h15)) (hgW) (by omega)
        · skip
          refine V.aload_n (pc := 30) 0 dX8_goDay_30 rfl ?_
          refine V.gr (pc := 31) 8 7 83 flX8_25 dX8_goDay_31 (kS_77) (by decide) (by decide) rfl (kR_77_7) ?_
          refine V.iload (pc := 34) 4 dX8_goDay_34 rfl ?_
          refine V.ia (pc := 36) (len := 16) k ((bysF σ a y k : Nat) : Int) dX8_goDay_36 (kS_83) (rfl) (by omega) (by rw [show bysF σ a y k = di σ k by unfold bysF; rw [if_pos (by omega)]]; exact (hC.2.2.2.2.1 k (by omega)).2.2) ?_
          refine V.goto (pc := 37) 51 dX8_goDay_37 (by decide) ?_
          refine V.callV (pc := 51) (e1 := eX8_go) (o := 77) (c := 8) 4 [vI ((k : Nat) : Int), vI ((b : Nat) : Int), vI 1, vI ((bysF σ a y k : Nat) : Int)] [] mfX8_go slX8_go mlX8_160 dX8_goDay_51 (kS_77) (by decide) rfl rfl rfl (Nat.le_of_ble_eq_true rfl) ⟨by decide, by decide, by decide, by decide⟩ ?_
          refine c_X8_go (upR (upR (upR (upR (upR hi 77 r77) 86 r86) 87 r87) 78 r78) 79 r79) hl σ (MR_up hC (hr 8 (by decide) (by decide) (by decide)) (hr 9 (by decide) (by decide) (by decide)) (hr 11 (by decide) (by decide) (by decide)) rfl rfl rfl rfl rfl) (wrun σ b true (bysF σ a y) wZ k) k (by omega) hW b (by omega) true (bysF σ a y k) _ (fun f77 f86 f87 f78 f79 hgo hgW => ?_)
          refine V.qV (pc := 51) rfl rfl ?_
          refine V.hieq (hi' := (upR (upR (upR (upR (upR hi 77 f77) 86 f86) 87 f87) 78 f78) 79 f79)) ((upR_c ((upR_c ((upR_c ((upR_c (rs (by decide) (rs (by decide) (rs (by decide) (rs (by decide) r1))))).trans (rs (by decide) (rs (by decide) (rs (by decide) r1))))).trans (rs (by decide) (rs (by decide) r1)))).trans (rs (by decide) r1))).trans r1) ?_
          refine V.iinc (pc := 54) (r := ((k + 1 : Nat) : Int)) 4 dX8_goDay_54 rfl (w32_of (by omega) (by omega) (by omega)) (by decide) (ls' := [(4, vI ((k + 1 : Nat) : Int)), (0, vR 77), (1, vI ((b : Nat) : Int)), (2, vI a), (3, vI ((y : Nat) : Int))]) rfl ?_
          refine V.goto (pc := 57) 12 dX8_goDay_57 (by decide) ?_
          refine V.locs [1, 2, 3, 4, 0] (ls' := [(0, vR 77), (1, vI ((b : Nat) : Int)), (2, vI a), (3, vI ((y : Nat) : Int)), (4, vI ((k + 1 : Nat) : Int))]) rfl ?_
          exact ih12 (k + 1) f77 f86 f87 f78 f79 (by omega) (fun j h1 h3 h15 => (hgo j h1 h3 h15).trans (hr j h1 h3 h15)) (hgW) (by omega)
  refine V.locs [1, 2, 3, 4, 0] (ls' := [(0, vR 77), (1, vI ((b : Nat) : Int)), (2, vI a), (3, vI ((y : Nat) : Int)), (4, vI 0)]) rfl ?_
  exact lp12 _ 0 (updF (hi 77) 15 0) fF (hi 87) (hi 78) (hi 79) (by omega) (fun j _ _ h15 => updF_n h15) (⟨okW_Z, hFo, fun j hj => absurd hj (Nat.not_lt_zero j), updF_s⟩) (Nat.lt_succ_self _)

set_option maxRecDepth 100000 in
theorem c_X8_draw (hi hl : HI) (x : Nat) (hx : x < 65537) (hs : hi 77 24 = (x : Nat)) (Q : QT) (hq : Q none KW (upR hi 77 (updF (hi 77) 24 ((nx x : Nat) : Int))) hl) : Con eX8_draw [vR 77] KW hi hl Q := by
  refine Con.ofV (by decide +kernel) (Nat.le_of_ble_eq_true rfl) ?_
  show V eX8_draw none KW 0 [(0, vR 77)] [] hi hl 0 0 Q
  refine V.hieq (hi' := (upR hi 77 (hi 77))) (by rw [upR_id]) ?_
  refine V.aload_n (pc := 0) 0 dX8_draw_0 rfl ?_
  refine V.ldc2 (pc := 1) (z := 75) clX8_247 dX8_draw_1 ⟨by decide, by decide⟩ ?_
  refine V.aload_n (pc := 4) 0 dX8_draw_4 rfl ?_
  refine V.gi (pc := 5) 8 24 ((x : Nat) : Int) flX8_249 dX8_draw_5 (kS_77) (by decide) (by decide) rfl (hs) ?_
  refine V.i2l (pc := 8) dX8_draw_8 ?_
  refine V.lmul (pc := 9) (((75 * x : Nat) : Int)) dX8_draw_9 (w64_of (by omega) (by omega) (by omega)) ?_
  refine V.ldc2 (pc := 10) (z := 74) clX8_252 dX8_draw_10 ⟨by decide, by decide⟩ ?_
  refine V.ladd (pc := 13) ((((75 * x + 74) : Nat) : Int)) dX8_draw_13 (w64_of (by omega) (by omega) (by omega)) ?_
  refine V.ldc2 (pc := 14) (z := 65537) clX8_254 dX8_draw_14 ⟨by decide, by decide⟩ ?_
  refine V.lrem (pc := 17) (((nx x : Nat) : Int)) dX8_draw_17 (by omega) (mNL (a := 75 * x + 74) (b := 65537) (by omega) (by omega) (by omega)) (rL_n (by have := nx_lt x; omega)) ?_
  refine V.l2i (pc := 18) (((nx x : Nat) : Int)) dX8_draw_18 (w32_of rfl (by omega) (by have := nx_lt x; omega)) ?_
  refine V.pi (pc := 19) (hi' := (upR hi 77 (updF (hi 77) 24 ((nx x : Nat) : Int)))) 8 24 flX8_249 dX8_draw_19 (kS_77) (by decide) (by decide) rfl rfl u1 ?_
  refine V.vret (pc := 22) dX8_draw_22 rfl ?_
  exact hq

set_option maxRecDepth 100000 in
theorem c_X8_slipBy (hi hl : HI) (σ : SG) (hC : MR hi σ) (w : WS) (p : Nat) (hp : p < nn σ) (hW : WM (hi 77) (hi 86) (hi 87) w p) (first : Bool) (x : Nat) (hx : x < 65537) (hs : hi 77 24 = (x : Nat)) (Q : QT) (hq : ∀ f77 f78 f79 : Nat → Int, (∀ j, j ≠ 1 → j ≠ 3 → j ≠ 24 → f77 j = hi 77 j) → f77 24 = (((if hearsB σ first w p then (drawF σ w p x).2 else x) : Nat) : Int) → Q (some (vI (((if hearsB σ first w p then (drawF σ w p x).1 else 0) : Nat) : Int))) KW (upR (upR (upR hi 77 f77) 78 f78) 79 f79) hl) : Con eX8_slipBy [vR 77, vI (p : Nat), vI (b2i first)] KW hi hl Q := by
  refine Con.ofV (by decide +kernel) (Nat.le_of_ble_eq_true rfl) ?_
  show V eX8_slipBy none KW 0 [(0, vR 77), (1, vI ((p : Nat) : Int)), (2, vI (b2i first))] [] hi hl 0 0 Q
  refine V.hieq (hi' := (upR (upR (upR hi 77 (hi 77)) 78 (hi 78)) 79 (hi 79))) (by rw [upR_id, upR_id, upR_id]) ?_
  have hwf := hC.1
  have hpp := hwf.2.2.2.1 p hp
  have hn16 := hwf.2.2.1
  have hCp := hC.2.2.2.2.1 p hp
  have hok := hW.1
  have hsd := said_lt (σ := σ) (p := p) hwf.2.2.2.2.1 hok
  have hso := hwf.1 (he σ p) (by omega)
  have hra := hwf.2.2.2.2.2
  have hn1 := nx_lt x
  have hn2 := nx_lt (nx x)
  refine V.aload_n (pc := 0) 0 dX8_slipBy_0 rfl ?_
  refine V.iload_n (pc := 1) 1 dX8_slipBy_1 rfl ?_
  refine V.iload_n (pc := 2) 2 dX8_slipBy_2 rfl ?_
  refine V.callV (pc := 3) (e1 := eX8_hears) (o := 77) (c := 8) 2 [vI ((p : Nat) : Int), vI (b2i first)] [] mfX8_hears slX8_hears mlX8_153 dX8_slipBy_3 (kS_77) (by decide) rfl rfl rfl (Nat.le_of_ble_eq_true rfl) ⟨by decide, by decide, by decide, by decide⟩ ?_
  refine c_X8_hears (upR (upR (upR hi 77 (hi 77)) 78 (hi 78)) 79 (hi 79)) hl σ hC w p (by omega) hW first _ ?_
  refine V.qI (pc := 3) rfl rfl ?_
  refine V.if_eq (pc := 6) 31 dX8_slipBy_6 (by decide) (fun h6 => ?_) (fun h6 => ?_)
  · have hhd := b2i_F h6
    refine V.iconst (pc := 31) (z := 0) dX8_slipBy_31 rfl ⟨by decide, by decide⟩ ?_
    refine V.iret (pc := 32) (z := 0) dX8_slipBy_32 rfl ?_
    rw [hhd] at hq
    exact hq _ _ _ (fun _ _ _ _ => rfl) hs
  · have hhd := b2i_T h6
    have hhr := hB_heard hpp.1 hhd
    refine V.aload_n (pc := 9) 0 dX8_slipBy_9 rfl ?_
    refine V.gr (pc := 10) 8 4 80 flX8_16 dX8_slipBy_10 (kS_77) (by decide) (by decide) rfl (kR_77_4) ?_
    refine V.aload_n (pc := 13) 0 dX8_slipBy_13 rfl ?_
    refine V.gr (pc := 14) 8 6 82 flX8_22 dX8_slipBy_14 (kS_77) (by decide) (by decide) rfl (kR_77_6) ?_
    refine V.iload_n (pc := 17) 1 dX8_slipBy_17 rfl ?_
    refine V.ia (pc := 18) (len := 16) p ((he σ p : Nat) : Int) dX8_slipBy_18 (kS_82) (rfl) (by omega) (hCp.2.1) ?_
    refine V.ia (pc := 19) (len := 6) (he σ p) ((so σ (he σ p) : Nat) : Int) dX8_slipBy_19 (kS_80) (rfl) (by omega) (hC.2.1 _ (by omega)) ?_
    refine V.i2l (pc := 20) dX8_slipBy_20 ?_
    refine V.lconst (pc := 21) (z := 1) dX8_slipBy_21 (by decide +kernel) ⟨by decide, by decide⟩ ?_
    refine V.ldc2 (pc := 22) (z := 3) clX8_93 dX8_slipBy_22 ⟨by decide, by decide⟩ ?_
    refine V.callS (pc := 25) (e1 := eX8_in) 3 [vL ((so σ (he σ p) : Nat) : Int), vL 1, vL 3] [] mfX8_in slX8_in mlX8_72 dX8_slipBy_25 rfl rfl (Nat.le_of_ble_eq_true rfl) ⟨by decide, by decide, by decide, by decide⟩ ?_
    refine c_X8_in KW (upR (upR (upR hi 77 (hi 77)) 78 (hi 78)) 79 (hi 79)) hl ((so σ (he σ p) : Nat) : Int) 1 3 _ (fun hin => ?_) (fun hin => ?_)
    · skip
      refine V.qI (pc := 25) rfl rfl ?_
      refine V.if_ne (pc := 28) 33 dX8_slipBy_28 (by decide) (fun h28 => ?_) (fun hc => by exact absurd hc (by decide))
      refine V.aload_n (pc := 33) 0 dX8_slipBy_33 rfl ?_
      refine V.callV (pc := 34) (e1 := eX8_draw) (o := 77) (c := 8) 0 [] [] mfX8_draw slX8_draw mlX8_256 dX8_slipBy_34 (kS_77) (by decide) rfl rfl rfl (Nat.le_of_ble_eq_true rfl) ⟨by decide, by decide, by decide, by decide⟩ ?_
      refine c_X8_draw (upR (upR (upR hi 77 (hi 77)) 78 (hi 78)) 79 (hi 79)) hl (x) (hx) (hs) _ ?_
      refine V.qV (pc := 34) rfl rfl ?_
      refine V.hieq (hi' := (upR (upR (upR hi 77 (updF (hi 77) 24 ((nx (x) : Nat) : Int))) 78 (hi 78)) 79 (hi 79))) (rs (by decide) (rs (by decide) r1)) ?_
      refine V.aload_n (pc := 37) 0 dX8_slipBy_37 rfl ?_
      refine V.gi (pc := 38) 8 24 ((nx x : Nat) : Int) flX8_249 dX8_slipBy_38 (kS_77) (by decide) (by decide) rfl ((show updF (hi 77) 24 ((nx x : Nat) : Int) 24 = _ from updF_s)) ?_
      refine V.aload_n (pc := 41) 0 dX8_slipBy_41 rfl ?_
      refine V.gi (pc := 42) 8 11 ((ra σ : Nat) : Int) flX8_66 dX8_slipBy_42 (kS_77) (by decide) (by decide) rfl (hC.2.2.2.2.2.2) ?_
      have hml1 := Nat.mod_le (nx x) (ra σ)
      refine V.irem (pc := 45) ((((nx x) % (ra σ) : Nat) : Int)) dX8_slipBy_45 (by omega) (mN (a := (nx x)) (b := (ra σ)) (by omega) (by omega) (by omega)) (rI_n (by omega)) ?_
      refine V.if_eq (pc := 46) 51 dX8_slipBy_46 (by decide) (fun h46 => ?_) (fun h46 => ?_)
      · skip
        refine V.aload_n (pc := 51) 0 dX8_slipBy_51 rfl ?_
        refine V.callV (pc := 52) (e1 := eX8_draw) (o := 77) (c := 8) 0 [] [] mfX8_draw slX8_draw mlX8_256 dX8_slipBy_52 (kS_77) (by decide) rfl rfl rfl (Nat.le_of_ble_eq_true rfl) ⟨by decide, by decide, by decide, by decide⟩ ?_
        refine c_X8_draw (upR (upR (upR hi 77 (updF (hi 77) 24 ((nx (x) : Nat) : Int))) 78 (hi 78)) 79 (hi 79)) hl (nx x) (hn1) ((show updF (hi 77) 24 ((nx x : Nat) : Int) 24 = _ from updF_s)) _ ?_
        refine V.qV (pc := 52) rfl rfl ?_
        refine V.hieq (hi' := (upR (upR (upR hi 77 (updF (updF (hi 77) 24 ((nx (x) : Nat) : Int)) 24 ((nx (nx x) : Nat) : Int))) 78 (hi 78)) 79 (hi 79))) (rs (by decide) (rs (by decide) r1)) ?_
        refine V.aload_n (pc := 55) 0 dX8_slipBy_55 rfl ?_
        refine V.aload_n (pc := 56) 0 dX8_slipBy_56 rfl ?_
        refine V.gr (pc := 57) 8 4 80 flX8_16 dX8_slipBy_57 (kS_77) (by decide) (by decide) rfl (kR_77_4) ?_
        refine V.aload_n (pc := 60) 0 dX8_slipBy_60 rfl ?_
        refine V.gr (pc := 61) 8 6 82 flX8_22 dX8_slipBy_61 (kS_77) (by decide) (by decide) rfl (kR_77_6) ?_
        refine V.iload_n (pc := 64) 1 dX8_slipBy_64 rfl ?_
        refine V.ia (pc := 65) (len := 16) p ((he σ p : Nat) : Int) dX8_slipBy_65 (kS_82) (rfl) (by omega) (hCp.2.1) ?_
        refine V.ia (pc := 66) (len := 6) (he σ p) ((so σ (he σ p) : Nat) : Int) dX8_slipBy_66 (kS_80) (rfl) (by omega) (hC.2.1 _ (by omega)) ?_
        refine V.aload_n (pc := 67) 0 dX8_slipBy_67 rfl ?_
        refine V.gr (pc := 68) 8 5 81 flX8_19 dX8_slipBy_68 (kS_77) (by decide) (by decide) rfl (kR_77_5) ?_
        refine V.iload_n (pc := 71) 1 dX8_slipBy_71 rfl ?_
        refine V.ia (pc := 72) (len := 16) p ((sp' σ p : Nat) : Int) dX8_slipBy_72 (kS_81) (rfl) (by omega) (hCp.1) ?_
        refine V.bipush (pc := 73) (z := 6) dX8_slipBy_73 (by decide +kernel) ⟨by decide, by decide⟩ ?_
        refine V.icmp_ne (pc := 75) 85 dX8_slipBy_75 (by decide) (fun h75 => ?_) (fun h75 => ?_)
        · skip
          refine V.aload_n (pc := 85) 0 dX8_slipBy_85 rfl ?_
          refine V.gr (pc := 86) 8 14 86 flX8_34 dX8_slipBy_86 (kS_77) (by decide) (by decide) rfl (kR_77_14) ?_
          refine V.aload_n (pc := 89) 0 dX8_slipBy_89 rfl ?_
          refine V.gr (pc := 90) 8 5 81 flX8_19 dX8_slipBy_90 (kS_77) (by decide) (by decide) rfl (kR_77_5) ?_
          refine V.iload_n (pc := 93) 1 dX8_slipBy_93 rfl ?_
          refine V.ia (pc := 94) (len := 16) p ((sp' σ p : Nat) : Int) dX8_slipBy_94 (kS_81) (rfl) (by omega) (hCp.1) ?_
          obtain ⟨hlt6, v, hv⟩ : sp' σ p < 6 ∧ ∃ v, w.1 (sp' σ p) = some v := by rcases hhr with q | q; { omega }; { exact q }
          refine V.ia (pc := 95) (len := 6) (sp' σ p) ((saidF σ (bg σ) w p : Nat) : Int) dX8_slipBy_95 (kS_86) (rfl) (by omega) (by show hi 86 (sp' σ p) = _; rw [hW.2.1 _ hlt6, hv, show saidF σ (bg σ) w p = v by unfold saidF; rw [if_neg (by omega), hv]; rfl]; rfl) ?_
          refine V.callV (pc := 96) (e1 := eX8_findSlips) (o := 77) (c := 8) 2 [vI ((so σ (he σ p) : Nat) : Int), vI ((saidF σ (bg σ) w p : Nat) : Int)] [] mfX8_findSlips slX8_findSlips mlX8_144 dX8_slipBy_96 (kS_77) (by decide) rfl rfl rfl (Nat.le_of_ble_eq_true rfl) ⟨by decide, by decide, by decide, by decide⟩ ?_
          refine c_X8_findSlips (upR (upR (upR hi 77 (updF (updF (hi 77) 24 ((nx (x) : Nat) : Int)) 24 ((nx (nx x) : Nat) : Int))) 78 (hi 78)) 79 (hi 79)) hl (so σ (he σ p)) (saidF σ (bg σ) w p) (by omega) (by omega) _ (fun fs gs gw hs1 hs2 hs3 => ?_)
          have hs1 : ∀ j, j ≠ 1 → j ≠ 3 → fs j = (updF (updF (hi 77) 24 ((nx (x) : Nat) : Int)) 24 ((nx (nx x) : Nat) : Int)) j := hs1
          refine V.qV (pc := 96) rfl rfl ?_
          refine V.hieq (hi' := (upR (upR (upR hi 77 fs) 78 gw) 79 gs)) ((upR_c ((upR_c (rs (by decide) (rs (by decide) r1))).trans (rs (by decide) r1))).trans r1) ?_
          refine V.aload_n (pc := 99) 0 dX8_slipBy_99 rfl ?_
          refine V.gi (pc := 100) 8 3 ((slN (so σ (he σ p)) (saidF σ (bg σ) w p) : Nat) : Int) flX8_90 dX8_slipBy_100 (kS_77) (by decide) (by decide) rfl (hs2) ?_
          refine V.if_ne (pc := 103) 110 dX8_slipBy_103 (by decide) (fun h103 => ?_) (fun h103 => ?_)
          · skip
            refine V.iconst (pc := 110) (z := 1) dX8_slipBy_110 rfl ⟨by decide, by decide⟩ ?_
            refine V.aload_n (pc := 111) 0 dX8_slipBy_111 rfl ?_
            refine V.gi (pc := 112) 8 24 ((nx (nx x) : Nat) : Int) flX8_249 dX8_slipBy_112 (kS_77) (by decide) (by decide) rfl (by show fs 24 = _; rw [hs1 24 (by decide) (by decide), updF_s]) ?_
            refine V.aload_n (pc := 115) 0 dX8_slipBy_115 rfl ?_
            refine V.gi (pc := 116) 8 3 ((slN (so σ (he σ p)) (saidF σ (bg σ) w p) : Nat) : Int) flX8_90 dX8_slipBy_116 (kS_77) (by decide) (by decide) rfl (hs2) ?_
            have h15 := slN_15 hso hsd
            have hml2 := Nat.mod_le (nx (nx x)) (slN (so σ (he σ p)) (saidF σ (bg σ) w p))
            refine V.irem (pc := 119) ((((nx (nx x)) % (slN (so σ (he σ p)) (saidF σ (bg σ) w p)) : Nat) : Int)) dX8_slipBy_119 (by omega) (mN (a := (nx (nx x))) (b := (slN (so σ (he σ p)) (saidF σ (bg σ) w p))) (by omega) (by omega) (by omega)) (rI_n (by omega)) ?_
            refine V.iadd (pc := 120) (((1 + nx (nx x) % slN (so σ (he σ p)) (saidF σ (bg σ) w p) : Nat) : Int)) dX8_slipBy_120 (addN (a := 1) (by omega)) ?_
            refine V.iret (pc := 121) (z := ((1 + nx (nx x) % slN (so σ (he σ p)) (saidF σ (bg σ) w p) : Nat) : Int)) dX8_slipBy_121 rfl ?_
            rw [if_pos hhd, if_pos hhd, show drawF σ w p x = (1 + nx (nx x) % slN (so σ (he σ p)) (saidF σ (bg σ) w p), nx (nx x)) by unfold drawF; rw [if_pos (by omega), if_neg (by omega), if_neg (by omega)]] at hq
            exact hq _ _ _ (fun j h1 h3 h24 => by rw [hs1 j h1 h3, updF_n h24, updF_n h24]) (by rw [hs1 24 (by decide) (by decide), updF_s])
          · skip
            refine V.iconst (pc := 106) (z := 0) dX8_slipBy_106 rfl ⟨by decide, by decide⟩ ?_
            refine V.goto (pc := 107) 121 dX8_slipBy_107 (by decide) ?_
            refine V.iret (pc := 121) (z := 0) dX8_slipBy_121 rfl ?_
            rw [if_pos hhd, if_pos hhd, show drawF σ w p x = (0, nx (nx x)) by unfold drawF; rw [if_pos (by omega), if_neg (by omega), if_pos (by omega)]] at hq
            exact hq _ _ _ (fun j h1 h3 h24 => by rw [hs1 j h1 h3, updF_n h24, updF_n h24]) (by rw [hs1 24 (by decide) (by decide), updF_s])
        · skip
          refine V.aload_n (pc := 78) 0 dX8_slipBy_78 rfl ?_
          refine V.gi (pc := 79) 8 9 ((saidF σ (bg σ) w p : Nat) : Int) flX8_147 dX8_slipBy_79 (kS_77) (by decide) (by decide) rfl (by rw [show saidF σ (bg σ) w p = bg σ by unfold saidF; rw [if_pos (by omega)]]; exact hC.2.2.2.2.2.1) ?_
          refine V.goto (pc := 82) 96 dX8_slipBy_82 (by decide) ?_
          refine V.callV (pc := 96) (e1 := eX8_findSlips) (o := 77) (c := 8) 2 [vI ((so σ (he σ p) : Nat) : Int), vI ((saidF σ (bg σ) w p : Nat) : Int)] [] mfX8_findSlips slX8_findSlips mlX8_144 dX8_slipBy_96 (kS_77) (by decide) rfl rfl rfl (Nat.le_of_ble_eq_true rfl) ⟨by decide, by decide, by decide, by decide⟩ ?_
          refine c_X8_findSlips (upR (upR (upR hi 77 (updF (updF (hi 77) 24 ((nx (x) : Nat) : Int)) 24 ((nx (nx x) : Nat) : Int))) 78 (hi 78)) 79 (hi 79)) hl (so σ (he σ p)) (saidF σ (bg σ) w p) (by omega) (by omega) _ (fun fs gs gw hs1 hs2 hs3 => ?_)
          have hs1 : ∀ j, j ≠ 1 → j ≠ 3 → fs j = (updF (updF (hi 77) 24 ((nx (x) : Nat) : Int)) 24 ((nx (nx x) : Nat) : Int)) j := hs1
          refine V.qV (pc := 96) rfl rfl ?_
          refine V.hieq (hi' := (upR (upR (upR hi 77 fs) 78 gw) 79 gs)) ((upR_c ((upR_c (rs (by decide) (rs (by decide) r1))).trans (rs (by decide) r1))).trans r1) ?_
          refine V.aload_n (pc := 99) 0 dX8_slipBy_99 rfl ?_
          refine V.gi (pc := 100) 8 3 ((slN (so σ (he σ p)) (saidF σ (bg σ) w p) : Nat) : Int) flX8_90 dX8_slipBy_100 (kS_77) (by decide) (by decide) rfl (hs2) ?_
          refine V.if_ne (pc := 103) 110 dX8_slipBy_103 (by decide) (fun h103 => ?_) (fun h103 => ?_)
          · skip
            refine V.iconst (pc := 110) (z := 1) dX8_slipBy_110 rfl ⟨by decide, by decide⟩ ?_
            refine V.aload_n (pc := 111) 0 dX8_slipBy_111 rfl ?_
            refine V.gi (pc := 112) 8 24 ((nx (nx x) : Nat) : Int) flX8_249 dX8_slipBy_112 (kS_77) (by decide) (by decide) rfl (by show fs 24 = _; rw [hs1 24 (by decide) (by decide), updF_s]) ?_
            refine V.aload_n (pc := 115) 0 dX8_slipBy_115 rfl ?_
            refine V.gi (pc := 116) 8 3 ((slN (so σ (he σ p)) (saidF σ (bg σ) w p) : Nat) : Int) flX8_90 dX8_slipBy_116 (kS_77) (by decide) (by decide) rfl (hs2) ?_
            have h15 := slN_15 hso hsd
            have hml2 := Nat.mod_le (nx (nx x)) (slN (so σ (he σ p)) (saidF σ (bg σ) w p))
            refine V.irem (pc := 119) ((((nx (nx x)) % (slN (so σ (he σ p)) (saidF σ (bg σ) w p)) : Nat) : Int)) dX8_slipBy_119 (by omega) (mN (a := (nx (nx x))) (b := (slN (so σ (he σ p)) (saidF σ (bg σ) w p))) (by omega) (by omega) (by omega)) (rI_n (by omega)) ?_
            refine V.iadd (pc := 120) (((1 + nx (nx x) % slN (so σ (he σ p)) (saidF σ (bg σ) w p) : Nat) : Int)) dX8_slipBy_120 (addN (a := 1) (by omega)) ?_
            refine V.iret (pc := 121) (z := ((1 + nx (nx x) % slN (so σ (he σ p)) (saidF σ (bg σ) w p) : Nat) : Int)) dX8_slipBy_121 rfl ?_
            rw [if_pos hhd, if_pos hhd, show drawF σ w p x = (1 + nx (nx x) % slN (so σ (he σ p)) (saidF σ (bg σ) w p), nx (nx x)) by unfold drawF; rw [if_pos (by omega), if_neg (by omega), if_neg (by omega)]] at hq
            exact hq _ _ _ (fun j h1 h3 h24 => by rw [hs1 j h1 h3, updF_n h24, updF_n h24]) (by rw [hs1 24 (by decide) (by decide), updF_s])
          · skip
            refine V.iconst (pc := 106) (z := 0) dX8_slipBy_106 rfl ⟨by decide, by decide⟩ ?_
            refine V.goto (pc := 107) 121 dX8_slipBy_107 (by decide) ?_
            refine V.iret (pc := 121) (z := 0) dX8_slipBy_121 rfl ?_
            rw [if_pos hhd, if_pos hhd, show drawF σ w p x = (0, nx (nx x)) by unfold drawF; rw [if_pos (by omega), if_neg (by omega), if_pos (by omega)]] at hq
            exact hq _ _ _ (fun j h1 h3 h24 => by rw [hs1 j h1 h3, updF_n h24, updF_n h24]) (by rw [hs1 24 (by decide) (by decide), updF_s])
      · skip
        refine V.iconst (pc := 49) (z := 0) dX8_slipBy_49 rfl ⟨by decide, by decide⟩ ?_
        refine V.iret (pc := 50) (z := 0) dX8_slipBy_50 rfl ?_
        rw [if_pos hhd, if_pos hhd, show drawF σ w p x = (0, nx x) by unfold drawF; rw [if_pos (by omega), if_pos (by omega)]] at hq
        exact hq _ _ _ (fun j _ _ h => updF_n h) updF_s
    · skip
      refine V.qI (pc := 25) rfl rfl ?_
      refine V.if_ne (pc := 28) 33 dX8_slipBy_28 (by decide) (fun hc => by exact absurd hc (by decide)) (fun h28 => ?_)
      refine V.iconst (pc := 31) (z := 0) dX8_slipBy_31 rfl ⟨by decide, by decide⟩ ?_
      refine V.iret (pc := 32) (z := 0) dX8_slipBy_32 rfl ?_
      rw [if_pos hhd, if_pos hhd, show drawF σ w p x = (0, x) by unfold drawF; rw [if_neg (by omega)]] at hq
      exact hq _ _ _ (fun _ _ _ _ => rfl) hs

set_option maxRecDepth 100000 in
theorem c_X8_passDay (hi hl : HI) (σ : SG) (hC : MR hi σ) (first : Bool) (y : WS × Nat) (hok : okW y.1) (hy : y.2 < 65537) (hy24 : hi 77 24 = (y.2 : Nat)) (hk6 : ∀ b, b < 6 → hi 86 b = encM (y.1.1 b)) (Q : QT) (hq : ∀ f77 f86 f87 f78 f79 : Nat → Int, (∀ j, j ≠ 1 → j ≠ 3 → j ≠ 15 → j ≠ 24 → f77 j = hi 77 j) → f77 24 = ((yday σ first y (nn σ)).2 : Nat) → (∀ b, b < 6 → f86 b = encM ((yday σ first y (nn σ)).1.1 b)) → Q none KW (upR (upR (upR (upR (upR hi 77 f77) 86 f86) 87 f87) 78 f78) 79 f79) hl) : Con eX8_passDay [vR 77, vI (b2i first)] KW hi hl Q := by
  refine Con.ofV (by decide +kernel) (Nat.le_of_ble_eq_true rfl) ?_
  show V eX8_passDay none KW 0 [(0, vR 77), (1, vI (b2i first))] [] hi hl 0 0 Q
  refine V.hieq (hi' := (upR (upR (upR (upR (upR hi 77 (hi 77)) 86 (hi 86)) 87 (hi 87)) 78 (hi 78)) 79 (hi 79))) (by rw [upR_id, upR_id, upR_id, upR_id, upR_id]) ?_
  have hwf := hC.1
  have hn16 := hwf.2.2.1
  have hbg := hwf.2.2.2.2.1
  refine V.aload_n (pc := 0) 0 dX8_passDay_0 rfl ?_
  refine V.iconst (pc := 1) (z := 0) dX8_passDay_1 rfl ⟨by decide, by decide⟩ ?_
  refine V.pi (pc := 2) (hi' := (upR (upR (upR (upR (upR hi 77 (updF (hi 77) 15 0)) 86 (hi 86)) 87 (hi 87)) 78 (hi 78)) 79 (hi 79))) 8 15 flX8_150 dX8_passDay_2 (kS_77) (by decide) (by decide) rfl rfl (us (by decide) (us (by decide) (us (by decide) (us (by decide) u1)))) ?_
  refine V.iconst (pc := 5) (z := 0) dX8_passDay_5 rfl ⟨by decide, by decide⟩ ?_
  refine V.istore_n (pc := 6) (i := 2) dX8_passDay_6 rfl (by decide) (ls' := [(2, vI 0), (0, vR 77), (1, vI (b2i first))]) rfl ?_
  have lp7 : ∀ (fu7 : Nat) (k : Nat) (r77 : Nat → Int) (r86 : Nat → Int) (r87 : Nat → Int) (r78 : Nat → Int) (r79 : Nat → Int), (k ≤ nn σ) → (∀ j, j ≠ 1 → j ≠ 3 → j ≠ 15 → j ≠ 24 → r77 j = hi 77 j) → (WM r77 r86 r87 (yday σ first y k).1 k) → (r77 24 = ((yday σ first y k).2 : Nat)) → nn σ - k < fu7 → V eX8_passDay none KW 7 [(0, vR 77), (1, vI (b2i first)), (2, vI ((k : Nat) : Int))] [] (upR (upR (upR (upR (upR hi 77 r77) 86 r86) 87 r87) 78 r78) 79 r79) hl 0 0 Q := by
    intro fu7
    induction fu7 with
    | zero => intro k r77 r86 r87 r78 r79 hk hr hW h24 hm7; exact absurd hm7 (Nat.not_lt_zero _)
    | succ fu7 ih7 =>
      intro k r77 r86 r87 r78 r79 hk hr hW h24 hm7
      refine V.iload_n (pc := 7) 2 dX8_passDay_7 rfl ?_
      refine V.aload_n (pc := 8) 0 dX8_passDay_8 rfl ?_
      refine V.gi (pc := 9) 8 8 ((nn σ : Nat) : Int) flX8_138 dX8_passDay_9 (kS_77) (by decide) (by decide) rfl ((hr 8 (by decide) (by decide) (by decide) (by decide)).trans hC.2.2.2.1) ?_
      refine V.icmp_ge (pc := 12) 37 dX8_passDay_12 (by decide) (fun h12 => ?_) (fun h12 => ?_)
      · skip
        refine V.vret (pc := 37) dX8_passDay_37 rfl ?_
        have e : k = nn σ := by omega
        subst e
        exact hq _ _ _ _ _ hr h24 hW.2.1
      · skip
        refine V.aload_n (pc := 15) 0 dX8_passDay_15 rfl ?_
        refine V.iload_n (pc := 16) 2 dX8_passDay_16 rfl ?_
        refine V.aload_n (pc := 17) 0 dX8_passDay_17 rfl ?_
        refine V.gi (pc := 18) 8 9 ((bg σ : Nat) : Int) flX8_147 dX8_passDay_18 (kS_77) (by decide) (by decide) rfl ((hr 9 (by decide) (by decide) (by decide) (by decide)).trans hC.2.2.2.2.2.1) ?_
        refine V.iload_n (pc := 21) 1 dX8_passDay_21 rfl ?_
        refine V.aload_n (pc := 22) 0 dX8_passDay_22 rfl ?_
        refine V.iload_n (pc := 23) 2 dX8_passDay_23 rfl ?_
        refine V.iload_n (pc := 24) 1 dX8_passDay_24 rfl ?_
        refine V.callV (pc := 25) (e1 := eX8_slipBy) (o := 77) (c := 8) 2 [vI ((k : Nat) : Int), vI (b2i first)] [vI (b2i first), vI ((bg σ : Nat) : Int), vI ((k : Nat) : Int), vR 77] mfX8_slipBy slX8_slipBy mlX8_259 dX8_passDay_25 (kS_77) (by decide) rfl rfl rfl (Nat.le_of_ble_eq_true rfl) ⟨by decide, by decide, by decide, by decide⟩ ?_
        refine c_X8_slipBy (upR (upR (upR (upR (upR hi 77 r77) 86 r86) 87 r87) 78 r78) 79 r79) hl σ (MR_up hC (hr 8 (by decide) (by decide) (by decide) (by decide)) (hr 9 (by decide) (by decide) (by decide) (by decide)) (hr 11 (by decide) (by decide) (by decide) (by decide)) rfl rfl rfl rfl rfl) (yday σ first y k).1 k (by omega) hW first (yday σ first y k).2 (yday_lt hy k) h24 _ (fun f77s f78s f79s hsb1 hsb2 => ?_)
        refine V.qI (pc := 25) rfl rfl ?_
        refine V.hieq (hi' := (upR (upR (upR (upR (upR hi 77 f77s) 86 r86) 87 r87) 78 f78s) 79 f79s)) ((upR_c ((upR_c (rs (by decide) (rs (by decide) (rs (by decide) (rs (by decide) r1))))).trans (rs (by decide) r1))).trans r1) ?_
        refine V.callV (pc := 28) (e1 := eX8_go) (o := 77) (c := 8) 4 [vI ((k : Nat) : Int), vI ((bg σ : Nat) : Int), vI (b2i first), vI (((if hearsB σ first (yday σ first y k).1 k then (drawF σ (yday σ first y k).1 k (yday σ first y k).2).1 else 0) : Nat) : Int)] [] mfX8_go slX8_go mlX8_160 dX8_passDay_28 (kS_77) (by decide) rfl rfl rfl (Nat.le_of_ble_eq_true rfl) ⟨by decide, by decide, by decide, by decide⟩ ?_
        refine c_X8_go (upR (upR (upR (upR (upR hi 77 f77s) 86 r86) 87 r87) 78 f78s) 79 f79s) hl σ (MR_up hC ((hsb1 8 (by decide) (by decide) (by decide)).trans (hr 8 (by decide) (by decide) (by decide) (by decide))) ((hsb1 9 (by decide) (by decide) (by decide)).trans (hr 9 (by decide) (by decide) (by decide) (by decide))) ((hsb1 11 (by decide) (by decide) (by decide)).trans (hr 11 (by decide) (by decide) (by decide) (by decide))) rfl rfl rfl rfl rfl) (yday σ first y k).1 k (by omega) ⟨hW.1, hW.2.1, hW.2.2.1, (hsb1 15 (by decide) (by decide) (by decide)).trans hW.2.2.2⟩ (bg σ) (by omega) first (if hearsB σ first (yday σ first y k).1 k then (drawF σ (yday σ first y k).1 k (yday σ first y k).2).1 else 0) _ (fun f77 f86 f87 f78 f79 hgo hgW => ?_)
        refine V.qV (pc := 28) rfl rfl ?_
        refine V.hieq (hi' := (upR (upR (upR (upR (upR hi 77 f77) 86 f86) 87 f87) 78 f78) 79 f79)) ((upR_c ((upR_c ((upR_c ((upR_c (rs (by decide) (rs (by decide) (rs (by decide) (rs (by decide) r1))))).trans (rs (by decide) (rs (by decide) (rs (by decide) r1))))).trans (rs (by decide) (rs (by decide) r1)))).trans (rs (by decide) r1))).trans r1) ?_
        refine V.iinc (pc := 31) (r := ((k + 1 : Nat) : Int)) 2 dX8_passDay_31 rfl (w32_of (by omega) (by omega) (by omega)) (by decide) (ls' := [(2, vI ((k + 1 : Nat) : Int)), (0, vR 77), (1, vI (b2i first))]) rfl ?_
        refine V.goto (pc := 34) 7 dX8_passDay_34 (by decide) ?_
        refine V.locs [1, 2, 0] (ls' := [(0, vR 77), (1, vI (b2i first)), (2, vI ((k + 1 : Nat) : Int))]) rfl ?_
        exact ih7 (k + 1) f77 f86 f87 f78 f79 (by omega) (fun j h1 h3 h15 h24 => ((hgo j h1 h3 h15).trans (hsb1 j h1 h3 h24)).trans (hr j h1 h3 h15 h24)) (by show WM _ _ _ (ystep σ first (yday σ first y k) k).1 (k + 1); rw [yst_if]; exact hgW) (by show _ = ((ystep σ first (yday σ first y k) k).2 : Int); rw [yst_if]; exact (hgo 24 (by decide) (by decide) (by decide)).trans hsb2) (by omega)
  refine V.locs [1, 2, 0] (ls' := [(0, vR 77), (1, vI (b2i first)), (2, vI 0)]) rfl ?_
  exact lp7 _ 0 (updF (hi 77) 15 0) (hi 86) (hi 87) (hi 78) (hi 79) (by omega) (fun j _ _ h15 _ => updF_n h15) (⟨⟨hok.1, by show 0 < 64; omega⟩, hk6, fun j hj => absurd hj (Nat.not_lt_zero j), updF_s⟩) (by rw [updF_n (by decide)]; exact hy24) (Nat.lt_succ_self _)

set_option maxRecDepth 100000 in
theorem c_X8_faultOfSaying (hi hl : HI) (m : Nat) (hm : hi 77 13 = (m : Nat)) (hm2 : m ≤ 48) (Q : QT) (hq : Q (some (vI (sayF (hi 85) m))) KW hi hl) : Con eX8_faultOfSaying [vR 77] KW hi hl Q := by
  refine Con.ofV (by decide +kernel) (Nat.le_of_ble_eq_true rfl) ?_
  show V eX8_faultOfSaying none KW 0 [(0, vR 77)] [] hi hl 0 0 Q
  refine V.iconst (pc := 0) (z := 0) dX8_faultOfSaying_0 rfl ⟨by decide, by decide⟩ ?_
  refine V.istore_n (pc := 1) (i := 1) dX8_faultOfSaying_1 rfl (by decide) (ls' := [(1, vI 0), (0, vR 77)]) rfl ?_
  have lp2 : ∀ (fu2 : Nat) (k : Nat), (k ≤ m) → (sayF (hi 85) k = -6) → m - k < fu2 → V eX8_faultOfSaying none KW 2 [(0, vR 77), (1, vI ((k : Nat) : Int))] [] hi hl 0 0 Q := by
    intro fu2
    induction fu2 with
    | zero => intro k hk hk2 hm2; exact absurd hm2 (Nat.not_lt_zero _)
    | succ fu2 ih2 =>
      intro k hk hk2 hm2
      have h5 := sayF_5 hk2
      refine V.iload_n (pc := 2) 1 dX8_faultOfSaying_2 rfl ?_
      refine V.aload_n (pc := 3) 0 dX8_faultOfSaying_3 rfl ?_
      refine V.gi (pc := 4) 8 13 ((m : Nat) : Int) flX8_113 dX8_faultOfSaying_4 (kS_77) (by decide) (by decide) rfl (hm) ?_
      refine V.icmp_ge (pc := 7) 42 dX8_faultOfSaying_7 (by decide) (fun h7 => ?_) (fun h7 => ?_)
      · skip
        refine V.bipush (pc := 42) (z := (-6)) dX8_faultOfSaying_42 (by decide +kernel) ⟨by decide, by decide⟩ ?_
        refine V.iret (pc := 44) (z := (-6)) dX8_faultOfSaying_44 rfl ?_
        have e : k = m := by omega
        subst e
        rw [hk2] at hq
        exact hq
      · skip
        refine V.iload_n (pc := 10) 1 dX8_faultOfSaying_10 rfl ?_
        refine V.iconst (pc := 11) (z := 5) dX8_faultOfSaying_11 rfl ⟨by decide, by decide⟩ ?_
        refine V.icmp_eq (pc := 12) 34 dX8_faultOfSaying_12 (by decide) (fun h12 => ?_) (fun h12 => ?_)
        · skip
          refine V.iload_n (pc := 34) 1 dX8_faultOfSaying_34 rfl ?_
          refine V.iret (pc := 35) (z := ((k : Nat) : Int)) dX8_faultOfSaying_35 rfl ?_
          rw [sayF_bad hk2 (by omega) m (by omega)] at hq
          exact hq
        · skip
          refine V.aload_n (pc := 15) 0 dX8_faultOfSaying_15 rfl ?_
          refine V.gr (pc := 16) 8 12 85 flX8_31 dX8_faultOfSaying_16 (kS_77) (by decide) (by decide) rfl (kR_77_12) ?_
          refine V.iload_n (pc := 19) 1 dX8_faultOfSaying_19 rfl ?_
          refine V.ia (pc := 20) (len := 48) k (hi 85 k) dX8_faultOfSaying_20 (kS_85) (rfl) (by omega) (rfl) ?_
          refine V.i2l (pc := 21) dX8_faultOfSaying_21 ?_
          refine V.ldc2 (pc := 22) (z := 97) clX8_127 dX8_faultOfSaying_22 ⟨by decide, by decide⟩ ?_
          refine V.ldc2 (pc := 25) (z := 99) clX8_129 dX8_faultOfSaying_25 ⟨by decide, by decide⟩ ?_
          refine V.callS (pc := 28) (e1 := eX8_in) 3 [vL (hi 85 k), vL 97, vL 99] [] mfX8_in slX8_in mlX8_72 dX8_faultOfSaying_28 rfl rfl (Nat.le_of_ble_eq_true rfl) ⟨by decide, by decide, by decide, by decide⟩ ?_
          refine c_X8_in KW hi hl (hi 85 k) 97 99 _ (fun hin => ?_) (fun hin => ?_)
          · skip
            refine V.qI (pc := 28) rfl rfl ?_
            refine V.if_ne (pc := 31) 36 dX8_faultOfSaying_31 (by decide) (fun h31 => ?_) (fun hc => by exact absurd hc (by decide))
            refine V.iinc (pc := 36) (r := ((k + 1 : Nat) : Int)) 1 dX8_faultOfSaying_36 rfl (w32_of (by omega) (by omega) (by omega)) (by decide) (ls' := [(1, vI ((k + 1 : Nat) : Int)), (0, vR 77)]) rfl ?_
            refine V.goto (pc := 39) 2 dX8_faultOfSaying_39 (by decide) ?_
            refine V.locs [1, 0] (ls' := [(0, vR 77), (1, vI ((k + 1 : Nat) : Int))]) rfl ?_
            exact ih2 (k + 1) (by omega) (sayF_ok hk2 (by omega)) (by omega)
          · skip
            refine V.qI (pc := 28) rfl rfl ?_
            refine V.if_ne (pc := 31) 36 dX8_faultOfSaying_31 (by decide) (fun hc => by exact absurd hc (by decide)) (fun h31 => ?_)
            refine V.iload_n (pc := 34) 1 dX8_faultOfSaying_34 rfl ?_
            refine V.iret (pc := 35) (z := ((k : Nat) : Int)) dX8_faultOfSaying_35 rfl ?_
            rw [sayF_bad hk2 (by omega) m (by omega)] at hq
            exact hq
  refine V.locs [1, 0] (ls' := [(0, vR 77), (1, vI 0)]) rfl ?_
  exact lp2 _ 0 (by omega) (rfl) (Nat.lt_succ_self _)

set_option maxRecDepth 100000 in
theorem c_X8_padSaying (hi hl : HI) (m : Nat) (hm : hi 77 13 = (m : Nat)) (hm2 : m ≤ 48) (hs6 : sayF (hi 85) m = -6) (Q : QT) (hq : Q (some (vI ((f3 m + sayV (hi 85) m : Nat)))) KW hi hl) : Con eX8_padSaying [vR 77] KW hi hl Q := by
  refine Con.ofV (by decide +kernel) (Nat.le_of_ble_eq_true rfl) ?_
  show V eX8_padSaying none KW 0 [(0, vR 77)] [] hi hl 0 0 Q
  have h5 := sayF_5 hs6
  have hall := fun j (hj : j < m) => (sayF_all hs6 j hj).2
  have hlt3 := padS_lt hs6
  refine V.iconst (pc := 0) (z := 0) dX8_padSaying_0 rfl ⟨by decide, by decide⟩ ?_
  refine V.istore_n (pc := 1) (i := 1) dX8_padSaying_1 rfl (by decide) (ls' := [(1, vI 0), (0, vR 77)]) rfl ?_
  refine V.iconst (pc := 2) (z := 0) dX8_padSaying_2 rfl ⟨by decide, by decide⟩ ?_
  refine V.istore_n (pc := 3) (i := 2) dX8_padSaying_3 rfl (by decide) (ls' := [(2, vI 0), (1, vI 0), (0, vR 77)]) rfl ?_
  have lp4 : ∀ (fu4 : Nat) (k : Nat), (k ≤ m) → m - k < fu4 → V eX8_padSaying none KW 4 [(0, vR 77), (1, vI ((sayV (hi 85) k : Nat) : Int)), (2, vI ((k : Nat) : Int))] [] hi hl 0 0 Q := by
    intro fu4
    induction fu4 with
    | zero => intro k hk hm4; exact absurd hm4 (Nat.not_lt_zero _)
    | succ fu4 ih4 =>
      intro k hk hm4
      have hlt := sayV_lt (fun j (hj : j < k) => hall j (by omega))
      have hp3 := p3_6 (show k ≤ 6 by omega)
      refine V.iload_n (pc := 4) 2 dX8_padSaying_4 rfl ?_
      refine V.aload_n (pc := 5) 0 dX8_padSaying_5 rfl ?_
      refine V.gi (pc := 6) 8 13 ((m : Nat) : Int) flX8_113 dX8_padSaying_6 (kS_77) (by decide) (by decide) rfl (hm) ?_
      refine V.icmp_ge (pc := 9) 32 dX8_padSaying_9 (by decide) (fun h9 => ?_) (fun h9 => ?_)
      · skip
        refine V.aload_n (pc := 32) 0 dX8_padSaying_32 rfl ?_
        refine V.gi (pc := 33) 8 13 ((m : Nat) : Int) flX8_113 dX8_padSaying_33 (kS_77) (by decide) (by decide) rfl (hm) ?_
        refine V.callS (pc := 36) (e1 := eX8_firstOf) 1 [vI ((m : Nat) : Int)] [] mfX8_firstOf slX8_firstOf mlX8_76 dX8_padSaying_36 rfl rfl (Nat.le_of_ble_eq_true rfl) ⟨by decide, by decide, by decide, by decide⟩ ?_
        refine c_X8_firstOf KW hi hl m (by omega) _ ?_
        refine V.qI (pc := 36) rfl rfl ?_
        refine V.iload_n (pc := 39) 1 dX8_padSaying_39 rfl ?_
        refine V.iadd (pc := 40) (((f3 m + sayV (hi 85) m : Nat) : Int)) dX8_padSaying_40 (by have e : k = m := (by omega); subst e; exact addN (by omega)) ?_
        refine V.iret (pc := 41) (z := ((f3 m + sayV (hi 85) m : Nat) : Int)) dX8_padSaying_41 rfl ?_
        exact hq
      · skip
        refine V.iconst (pc := 12) (z := 3) dX8_padSaying_12 rfl ⟨by decide, by decide⟩ ?_
        refine V.iload_n (pc := 13) 1 dX8_padSaying_13 rfl ?_
        refine V.imul (pc := 14) (((3 * sayV (hi 85) k : Nat) : Int)) dX8_padSaying_14 (w32_of (by omega) (by omega) (by omega)) ?_
        refine V.aload_n (pc := 15) 0 dX8_padSaying_15 rfl ?_
        refine V.gr (pc := 16) 8 12 85 flX8_31 dX8_padSaying_16 (kS_77) (by decide) (by decide) rfl (kR_77_12) ?_
        refine V.iload_n (pc := 19) 2 dX8_padSaying_19 rfl ?_
        refine V.ia (pc := 20) (len := 48) k (hi 85 k) dX8_padSaying_20 (kS_85) (rfl) (by omega) (rfl) ?_
        have hg := hall k (by omega)
        refine V.iadd (pc := 21) ((((3 * sayV (hi 85) k : Nat) : Int) + (hi 85 k))) dX8_padSaying_21 (w32_of (by omega) (by omega) (by omega)) ?_
        refine V.bipush (pc := 22) (z := 97) dX8_padSaying_22 (by decide +kernel) ⟨by decide, by decide⟩ ?_
        refine V.isub (pc := 24) (((sayV (hi 85) (k + 1) : Nat) : Int)) dX8_padSaying_24 (w32_of (by rw [sayV_s]; omega) (by omega) (by rw [sayV_s]; omega)) ?_
        refine V.istore_n (pc := 25) (i := 1) dX8_padSaying_25 rfl (by decide) (ls' := [(1, vI ((sayV (hi 85) (k + 1) : Nat) : Int)), (0, vR 77), (2, vI ((k : Nat) : Int))]) rfl ?_
        refine V.iinc (pc := 26) (r := ((k + 1 : Nat) : Int)) 2 dX8_padSaying_26 rfl (w32_of (by omega) (by omega) (by omega)) (by decide) (ls' := [(2, vI ((k + 1 : Nat) : Int)), (1, vI ((sayV (hi 85) (k + 1) : Nat) : Int)), (0, vR 77)]) rfl ?_
        refine V.goto (pc := 29) 4 dX8_padSaying_29 (by decide) ?_
        refine V.locs [2, 1, 0] (ls' := [(0, vR 77), (1, vI ((sayV (hi 85) (k + 1) : Nat) : Int)), (2, vI ((k + 1 : Nat) : Int))]) rfl ?_
        exact ih4 (k + 1) (by omega) (by omega)
  refine V.locs [2, 1, 0] (ls' := [(0, vR 77), (1, vI 0), (2, vI 0)]) rfl ?_
  exact lp4 _ 0 (by omega) (Nat.lt_succ_self _)

