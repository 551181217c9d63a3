set_option maxRecDepth 100000 in
theorem c_X6_forgetAll (hi hl : HI) (Q : QT) (hq : ∀ f, (∀ b, b < 6 → f b = -1) → Q none KW (upR hi 34 f) hl) : Con eX6_forgetAll [vR 33] KW hi hl Q := by
  refine Con.ofV (by decide +kernel) (Nat.le_of_ble_eq_true rfl) ?_
  show V eX6_forgetAll none KW 0 [(0, vR 33)] [] hi hl 0 0 Q
  refine V.hieq (hi' := (upR hi 34 (hi 34))) (by rw [upR_id]) ?_
  refine V.iconst (pc := 0) (z := 0) dX6_forgetAll_0 rfl ⟨by decide, by decide⟩ ?_
  refine V.istore_n (pc := 1) (i := 1) dX6_forgetAll_1 rfl (by decide) (ls' := [(1, vI 0), (0, vR 33)]) rfl ?_
  have lp2 : ∀ (fu2 : Nat) (k : Nat) (f : Nat → Int), (k ≤ 6) → (∀ b, b < k → f b = -1) → 6 - k < fu2 → V eX6_forgetAll none KW 2 [(0, vR 33), (1, vI ((k : Nat) : Int))] [] (upR hi 34 f) hl 0 0 Q := by
    intro fu2
    induction fu2 with
    | zero => intro k f hk hC hm2; exact absurd hm2 (Nat.not_lt_zero _)
    | succ fu2 ih2 =>
      intro k f hk hC hm2
      refine V.iload_n (pc := 2) 1 dX6_forgetAll_2 rfl ?_
      refine V.bipush (pc := 3) (z := 6) dX6_forgetAll_3 (by decide +kernel) ⟨by decide, by decide⟩ ?_
      refine V.icmp_ge (pc := 5) 21 dX6_forgetAll_5 (by decide) (fun h5 => ?_) (fun h5 => ?_)
      · skip
        refine V.vret (pc := 21) dX6_forgetAll_21 rfl ?_
        exact hq _ (fun b hb => hC b (by omega))
      · skip
        refine V.aload_n (pc := 8) 0 dX6_forgetAll_8 rfl ?_
        refine V.gr (pc := 9) 6 0 34 flX6_9 dX6_forgetAll_9 (kS_33) (by decide) (by decide) rfl (kR_33_0) ?_
        refine V.iload_n (pc := 12) 1 dX6_forgetAll_12 rfl ?_
        refine V.iconst (pc := 13) (z := (-1)) dX6_forgetAll_13 rfl ⟨by decide, by decide⟩ ?_
        refine V.is (pc := 14) (len := 6) (hi' := (upR hi 34 (updF f k (-1)))) k dX6_forgetAll_14 (kS_34) (rfl) (by omega) u1 ?_
        refine V.iinc (pc := 15) (r := ((k + 1 : Nat) : Int)) 1 dX6_forgetAll_15 rfl (w32_of (by omega) (by omega) (by omega)) (by decide) (ls' := [(1, vI ((k + 1 : Nat) : Int)), (0, vR 33)]) rfl ?_
        refine V.goto (pc := 18) 2 dX6_forgetAll_18 (by decide) ?_
        refine V.locs [1, 0] (ls' := [(0, vR 33), (1, vI ((k + 1 : Nat) : Int))]) rfl ?_
        exact ih2 (k + 1) (updF f k (-1)) (by omega) (fun b hb => by by_cases e : b = k; { rw [e, updF_s] }; { rw [updF_n e]; exact hC b (by omega) }) (by omega)
  refine V.locs [1, 0] (ls' := [(0, vR 33), (1, vI 0)]) rfl ?_
  exact lp2 _ 0 (hi 34) (by omega) (fun b hb => absurd hb (Nat.not_lt_zero b)) (Nat.lt_succ_self _)

set_option maxRecDepth 100000 in
theorem c_X6_nextSeed (hi hl : HI) (x : Nat) (hx : x < 65537) (hs : hi 33 3 = (x : Nat)) (Q : QT) (hq : Q none KW (upR hi 33 (updF (hi 33) 3 ((nx x : Nat) : Int))) hl) : Con eX6_nextSeed [vR 33] KW hi hl Q := by
  refine Con.ofV (by decide +kernel) (Nat.le_of_ble_eq_true rfl) ?_
  show V eX6_nextSeed none KW 0 [(0, vR 33)] [] hi hl 0 0 Q
  refine V.hieq (hi' := (upR hi 33 (hi 33))) (by rw [upR_id]) ?_
  refine V.aload_n (pc := 0) 0 dX6_nextSeed_0 rfl ?_
  refine V.bipush (pc := 1) (z := 75) dX6_nextSeed_1 (by decide +kernel) ⟨by decide, by decide⟩ ?_
  refine V.aload_n (pc := 3) 0 dX6_nextSeed_3 rfl ?_
  refine V.gi (pc := 4) 6 3 ((x : Nat) : Int) flX6_23 dX6_nextSeed_4 (kS_33) (by decide) (by decide) rfl (hs) ?_
  refine V.imul (pc := 7) (((75 * x : Nat) : Int)) dX6_nextSeed_7 (mulN (a := 75) (b := x) (by omega)) ?_
  refine V.bipush (pc := 8) (z := 74) dX6_nextSeed_8 (by decide +kernel) ⟨by decide, by decide⟩ ?_
  refine V.iadd (pc := 10) ((((75 * x + 74) : Nat) : Int)) dX6_nextSeed_10 (addN (a := 75 * x) (b := 74) (by omega)) ?_
  refine V.ldc (pc := 11) (z := 65537) coX6_94 dX6_nextSeed_11 ⟨by decide, by decide⟩ ?_
  refine V.irem (pc := 13) ((((75 * x + 74) % 65537 : Nat) : Int)) dX6_nextSeed_13 (by omega) (mN (a := (75 * x + 74)) (b := 65537) (by omega) (by omega) (by omega)) (rI_n (by omega)) ?_
  refine V.pi (pc := 14) (hi' := (upR hi 33 (updF (hi 33) 3 (((75 * x + 74) % 65537 : Nat) : Int)))) 6 3 flX6_23 dX6_nextSeed_14 (kS_33) (by decide) (by decide) rfl rfl u1 ?_
  refine V.vret (pc := 17) dX6_nextSeed_17 rfl ?_
  exact hq

set_option maxRecDepth 100000 in
theorem c_X6_listen (hi hl : HI) (hT : TB (hi 2) (hi 3)) (σ : SG) (hC : CR hi 10 σ) (w : WS) (p : Nat) (hp : p < nn σ) (hW : WR (hi 33) (hi 34) (hi 35) w p) (first : Bool) (Q : QT) (hq : ∀ r33 r35, r33 2 = (siF σ w p : Nat) → r33 3 = hi 33 3 → r35 p = b2i (hearsB σ first w p) → (∀ j, j < p → r35 j = hi 35 j) → Q none KW (upR (upR hi 33 r33) 35 r35) hl) : Con eX6_listen [vR 33, vR 10, vI (p : Nat), vI (b2i first)] KW hi hl Q := by
  refine Con.ofV (by decide +kernel) (Nat.le_of_ble_eq_true rfl) ?_
  show V eX6_listen none KW 0 [(0, vR 33), (1, vR 10), (2, vI ((p : Nat) : Int)), (3, vI (b2i first))] [] hi hl 0 0 Q
  refine V.hieq (hi' := (upR (upR hi 33 (hi 33)) 35 (hi 35))) (by rw [upR_id, upR_id]) ?_
  have hwf := hC.1
  have hpp := hwf.2.2.2.1 p hp
  have hn16 := hwf.2.2.1
  have hCp := hC.2.2.2.2.1 p hp
  have hok := hW.1
  have hsl := siF_lt (σ := σ) hok hpp.2.1
  refine V.aload_n (pc := 0) 1 dX6_listen_0 rfl ?_
  refine V.gr (pc := 1) 0 2 13 flX6_29 dX6_listen_1 (kS_10) (by decide) (by decide) rfl (kR_10_2) ?_
  refine V.gr (pc := 4) 1 0 14 flX6_55 dX6_listen_4 (kS_13) (by decide) (by decide) rfl (kR_13_0) ?_
  refine V.iload_n (pc := 7) 2 dX6_listen_7 rfl ?_
  refine V.ia (pc := 8) (len := 16) p ((sp' σ p : Nat) : Int) dX6_listen_8 (kS_14) (rfl) (by omega) (hCp.1) ?_
  refine V.istore (pc := 9) (i := 4) dX6_listen_9 (by decide) (ls' := [(4, vI ((sp' σ p : Nat) : Int)), (0, vR 33), (1, vR 10), (2, vI ((p : Nat) : Int)), (3, vI (b2i first))]) rfl ?_
  refine V.aload_n (pc := 11) 1 dX6_listen_11 rfl ?_
  refine V.gr (pc := 12) 6 1 35 flX6_15 dX6_listen_12 (kS_33) (by decide) (by decide) rfl (kR_33_1) ?_
  refine V.iload_n (pc := 15) 3 dX6_listen_15 rfl ?_
  refine V.iconst (pc := 16) (z := 0) dX6_listen_16 rfl ⟨by decide, by decide⟩ ?_
  refine V.zs (pc := 17) (len := 16) (hi' := (upR (upR hi 33 (hi 33)) 35 (updF (hi 35) p 0))) p dX6_listen_17 (kS_35) (rfl) (by omega) (Or.inl rfl) u1 ?_
  refine V.iload (pc := 18) 0 dX6_listen_18 rfl ?_
  refine V.bipush (pc := 20) (z := 6) dX6_listen_20 (by decide +kernel) ⟨by decide, by decide⟩ ?_
  refine V.icmp_ne (pc := 22) 35 dX6_listen_22 (by decide) (fun h22 => ?_) (fun h22 => ?_)
  · skip
    refine V.iload (pc := 35) 0 dX6_listen_35 rfl ?_
    refine V.bipush (pc := 37) (z := 7) dX6_listen_37 (by decide +kernel) ⟨by decide, by decide⟩ ?_
    refine V.icmp_ne (pc := 39) 65 dX6_listen_39 (by decide) (fun h39 => ?_) (fun h39 => ?_)
    · skip
      refine V.iload (pc := 65) 0 dX6_listen_65 rfl ?_
      refine V.callS (pc := 67) (e1 := eX7_isBird) 1 [vI ((sp' σ p : Nat) : Int)] [] mfX7_isBird slX7_isBird mlX6_61 dX6_listen_67 rfl rfl (Nat.le_of_ble_eq_true rfl) ⟨by decide, by decide, by decide, by decide⟩ ?_
      refine c_X7_isBird KW (upR (upR hi 33 (hi 33)) 35 (updF (hi 35) p 0)) hl ((sp' σ p : Nat) : Int) _ (fun hb => ?_) (fun hb => absurd hb (by omega))
      · skip
        refine V.qI (pc := 67) rfl rfl ?_
        refine V.if_eq (pc := 70) 156 dX6_listen_70 (by decide) (fun hc => by exact absurd hc (by decide)) (fun h70 => ?_)
        refine V.aload_n (pc := 73) 1 dX6_listen_73 rfl ?_
        refine V.gr (pc := 74) 6 0 34 flX6_9 dX6_listen_74 (kS_33) (by decide) (by decide) rfl (kR_33_0) ?_
        refine V.iload (pc := 77) 0 dX6_listen_77 rfl ?_
        refine V.ia (pc := 79) (len := 6) (sp' σ p) (encC (w.1 (sp' σ p))) dX6_listen_79 (kS_34) (rfl) (by omega) (hW.2.1 _ (by omega)) ?_
        refine V.iconst (pc := 80) (z := (-1)) dX6_listen_80 rfl ⟨by decide, by decide⟩ ?_
        refine V.icmp_eq (pc := 81) 156 dX6_listen_81 (by decide) (fun h81 => ?_) (fun h81 => ?_)
        · skip
          refine V.vret (pc := 156) dX6_listen_156 rfl ?_
          refine hq _ _ ?_ ?_ ?_ ?_
          · first | exact updF_s | (show hi 33 2 = _; rw [show siF σ w p = w.2.2 by unfold siF; rw [if_neg (by omega)]]; exact hW.2.2.2)
          · first | rfl | exact updF_n (by decide)
          · rw [updF_s]
            first
            | (rw [hB_X (by omega)]; done)
            | (rw [hB_m (by omega)]; rfl)
            | (rw [hB_n (by omega) (encC_none.mp h81)]; rfl)
            | (rw [hB_s (by omega) (bt_true h93)]; rfl)
            | (rw [hB_y (by omega) hv hbf, hA1, Bool.or_true]; rfl)
            | (rw [hB_y (by omega) hv hbf, hA0, show (so σ (sp' σ p) != 4) = true by simp; omega]; rfl)
            | (rw [hB_y (by omega) hv hbf, hA0, show (so σ (sp' σ p) != 4) = false by simp; omega]; rfl)
          · intro j hj; first | exact updF_n (by omega) | (rw [updF_n (by omega), updF_n (by omega)])
        · skip
          refine V.aload_n (pc := 84) 1 dX6_listen_84 rfl ?_
          refine V.gi (pc := 85) 6 2 ((w.2.2 : Nat) : Int) flX6_19 dX6_listen_85 (kS_33) (by decide) (by decide) rfl (hW.2.2.2) ?_
          refine V.iload (pc := 88) 0 dX6_listen_88 rfl ?_
          have hsw := hok.2
          refine V.ishr (pc := 90) (((w.2.2 / 2 ^ sp' σ p : Nat) : Int)) dX6_listen_90 (hN (a := w.2.2) (k := sp' σ p) (by omega) (by omega)) (rI_n (by have := Nat.div_le_self w.2.2 (2 ^ sp' σ p); omega)) ?_
          refine V.iconst (pc := 91) (z := 1) dX6_listen_91 rfl ⟨by decide, by decide⟩ ?_
          refine V.iand (pc := 92) (((w.2.2 / 2 ^ sp' σ p &&& 1 : Nat) : Int)) dX6_listen_92 (aN (w.2.2 / 2 ^ sp' σ p) 1) (rI_n (by rw [bit1]; split <;> omega)) ?_
          refine V.if_ne (pc := 93) 156 dX6_listen_93 (by decide) (fun h93 => ?_) (fun h93 => ?_)
          · skip
            refine V.vret (pc := 156) dX6_listen_156 rfl ?_
            refine hq _ _ ?_ ?_ ?_ ?_
            · first | exact updF_s | (show hi 33 2 = _; rw [show siF σ w p = w.2.2 by unfold siF; rw [if_neg (by omega)]]; exact hW.2.2.2)
            · first | rfl | exact updF_n (by decide)
            · rw [updF_s]
              first
              | (rw [hB_X (by omega)]; done)
              | (rw [hB_m (by omega)]; rfl)
              | (rw [hB_n (by omega) (encC_none.mp h81)]; rfl)
              | (rw [hB_s (by omega) (bt_true h93)]; rfl)
              | (rw [hB_y (by omega) hv hbf, hA1, Bool.or_true]; rfl)
              | (rw [hB_y (by omega) hv hbf, hA0, show (so σ (sp' σ p) != 4) = true by simp; omega]; rfl)
              | (rw [hB_y (by omega) hv hbf, hA0, show (so σ (sp' σ p) != 4) = false by simp; omega]; rfl)
            · intro j hj; first | exact updF_n (by omega) | (rw [updF_n (by omega), updF_n (by omega)])
          · obtain ⟨v, hv⟩ := encC_some h81
            have hbf := bt_false (show ((w.2.2 / 2 ^ sp' σ p &&& 1 : Nat) : Int) = 0 by omega)
            refine V.iload_n (pc := 96) 3 dX6_listen_96 rfl ?_
            refine V.if_le (pc := 97) 126 dX6_listen_97 (by decide) (fun h97 => ?_) (fun h97 => ?_)
            · have hA0 : ansB σ w p = false := ansB_f (fun q => by omega)
              refine V.iconst (pc := 126) (z := 0) dX6_listen_126 rfl ⟨by decide, by decide⟩ ?_
              refine V.istore (pc := 127) (i := 5) dX6_listen_127 (by decide) (ls' := [(5, vI 0), (4, vI ((sp' σ p : Nat) : Int)), (0, vR 33), (1, vR 10), (2, vI ((p : Nat) : Int)), (3, vI (b2i first))]) rfl ?_
              refine V.aload_n (pc := 129) 2 dX6_listen_129 rfl ?_
              refine V.gr (pc := 130) 6 1 35 flX6_15 dX6_listen_130 (kS_33) (by decide) (by decide) rfl (kR_33_1) ?_
              refine V.iload_n (pc := 133) 4 dX6_listen_133 rfl ?_
              refine V.iload (pc := 134) 0 dX6_listen_134 rfl ?_
              refine V.if_ne (pc := 136) 150 dX6_listen_136 (by decide) (fun hc => by exact absurd hc (by decide)) (fun h136 => ?_)
              refine V.aload_n (pc := 139) 3 dX6_listen_139 rfl ?_
              refine V.gr (pc := 140) 0 0 11 flX6_68 dX6_listen_140 (kS_10) (by decide) (by decide) rfl (kR_10_0) ?_
              refine V.iload (pc := 143) 1 dX6_listen_143 rfl ?_
              refine V.ia (pc := 145) (len := 6) (sp' σ p) ((so σ (sp' σ p) : Nat) : Int) dX6_listen_145 (kS_11) (rfl) (by omega) (hC.2.1 _ (by omega)) ?_
              refine V.iconst (pc := 146) (z := 4) dX6_listen_146 rfl ⟨by decide, by decide⟩ ?_
              refine V.icmp_eq (pc := 147) 154 dX6_listen_147 (by decide) (fun h147 => ?_) (fun h147 => ?_)
              · skip
                refine V.iconst (pc := 154) (z := 0) dX6_listen_154 rfl ⟨by decide, by decide⟩ ?_
                refine V.zs (pc := 155) (len := 16) (hi' := (upR (upR hi 33 (hi 33)) 35 (updF (updF (hi 35) p 0) p 0))) p dX6_listen_155 (kS_35) (rfl) (by omega) (Or.inl rfl) u1 ?_
                refine V.vret (pc := 156) dX6_listen_156 rfl ?_
                refine hq _ _ ?_ ?_ ?_ ?_
                · first | exact updF_s | (show hi 33 2 = _; rw [show siF σ w p = w.2.2 by unfold siF; rw [if_neg (by omega)]]; exact hW.2.2.2)
                · first | rfl | exact updF_n (by decide)
                · rw [updF_s]
                  first
                  | (rw [hB_X (by omega)]; done)
                  | (rw [hB_m (by omega)]; rfl)
                  | (rw [hB_n (by omega) (encC_none.mp h81)]; rfl)
                  | (rw [hB_s (by omega) (bt_true h93)]; rfl)
                  | (rw [hB_y (by omega) hv hbf, hA1, Bool.or_true]; rfl)
                  | (rw [hB_y (by omega) hv hbf, hA0, show (so σ (sp' σ p) != 4) = true by simp; omega]; rfl)
                  | (rw [hB_y (by omega) hv hbf, hA0, show (so σ (sp' σ p) != 4) = false by simp; omega]; rfl)
                · intro j hj; first | exact updF_n (by omega) | (rw [updF_n (by omega), updF_n (by omega)])
              · skip
                refine V.iconst (pc := 150) (z := 1) dX6_listen_150 rfl ⟨by decide, by decide⟩ ?_
                refine V.goto (pc := 151) 155 dX6_listen_151 (by decide) ?_
                refine V.zs (pc := 155) (len := 16) (hi' := (upR (upR hi 33 (hi 33)) 35 (updF (updF (hi 35) p 0) p 1))) p dX6_listen_155 (kS_35) (rfl) (by omega) (Or.inr rfl) u1 ?_
                refine V.vret (pc := 156) dX6_listen_156 rfl ?_
                refine hq _ _ ?_ ?_ ?_ ?_
                · first | exact updF_s | (show hi 33 2 = _; rw [show siF σ w p = w.2.2 by unfold siF; rw [if_neg (by omega)]]; exact hW.2.2.2)
                · first | rfl | exact updF_n (by decide)
                · rw [updF_s]
                  first
                  | (rw [hB_X (by omega)]; done)
                  | (rw [hB_m (by omega)]; rfl)
                  | (rw [hB_n (by omega) (encC_none.mp h81)]; rfl)
                  | (rw [hB_s (by omega) (bt_true h93)]; rfl)
                  | (rw [hB_y (by omega) hv hbf, hA1, Bool.or_true]; rfl)
                  | (rw [hB_y (by omega) hv hbf, hA0, show (so σ (sp' σ p) != 4) = true by simp; omega]; rfl)
                  | (rw [hB_y (by omega) hv hbf, hA0, show (so σ (sp' σ p) != 4) = false by simp; omega]; rfl)
                · intro j hj; first | exact updF_n (by omega) | (rw [updF_n (by omega), updF_n (by omega)])
            · skip
              refine V.aload_n (pc := 100) 1 dX6_listen_100 rfl ?_
              refine V.gr (pc := 101) 6 1 35 flX6_15 dX6_listen_101 (kS_33) (by decide) (by decide) rfl (kR_33_1) ?_
              refine V.iload_n (pc := 104) 3 dX6_listen_104 rfl ?_
              refine V.iconst (pc := 105) (z := 1) dX6_listen_105 rfl ⟨by decide, by decide⟩ ?_
              refine V.isub (pc := 106) (((p - 1 : Nat) : Int)) dX6_listen_106 (subN (a := p) (b := 1) (by omega) (by omega)) ?_
              refine V.za (pc := 107) (len := 16) (p - 1) (b2i (w.2.1 (p - 1))) dX6_listen_107 (kS_35) (rfl) (by omega) (by show updF (hi 35) p 0 (p - 1) = _; rw [updF_n (by omega)]; exact hW.2.2.1 _ (by omega)) ?_
              refine V.if_eq (pc := 108) 126 dX6_listen_108 (by decide) (fun h108 => ?_) (fun h108 => ?_)
              · have hA0 : ansB σ w p = false := ansB_f (fun q => by rw [q.2.1] at h108; exact absurd h108 (by decide))
                refine V.iconst (pc := 126) (z := 0) dX6_listen_126 rfl ⟨by decide, by decide⟩ ?_
                refine V.istore (pc := 127) (i := 5) dX6_listen_127 (by decide) (ls' := [(5, vI 0), (4, vI ((sp' σ p : Nat) : Int)), (0, vR 33), (1, vR 10), (2, vI ((p : Nat) : Int)), (3, vI (b2i first))]) rfl ?_
                refine V.aload_n (pc := 129) 2 dX6_listen_129 rfl ?_
                refine V.gr (pc := 130) 6 1 35 flX6_15 dX6_listen_130 (kS_33) (by decide) (by decide) rfl (kR_33_1) ?_
                refine V.iload_n (pc := 133) 4 dX6_listen_133 rfl ?_
                refine V.iload (pc := 134) 0 dX6_listen_134 rfl ?_
                refine V.if_ne (pc := 136) 150 dX6_listen_136 (by decide) (fun hc => by exact absurd hc (by decide)) (fun h136 => ?_)
                refine V.aload_n (pc := 139) 3 dX6_listen_139 rfl ?_
                refine V.gr (pc := 140) 0 0 11 flX6_68 dX6_listen_140 (kS_10) (by decide) (by decide) rfl (kR_10_0) ?_
                refine V.iload (pc := 143) 1 dX6_listen_143 rfl ?_
                refine V.ia (pc := 145) (len := 6) (sp' σ p) ((so σ (sp' σ p) : Nat) : Int) dX6_listen_145 (kS_11) (rfl) (by omega) (hC.2.1 _ (by omega)) ?_
                refine V.iconst (pc := 146) (z := 4) dX6_listen_146 rfl ⟨by decide, by decide⟩ ?_
                refine V.icmp_eq (pc := 147) 154 dX6_listen_147 (by decide) (fun h147 => ?_) (fun h147 => ?_)
                · skip
                  refine V.iconst (pc := 154) (z := 0) dX6_listen_154 rfl ⟨by decide, by decide⟩ ?_
                  refine V.zs (pc := 155) (len := 16) (hi' := (upR (upR hi 33 (hi 33)) 35 (updF (updF (hi 35) p 0) p 0))) p dX6_listen_155 (kS_35) (rfl) (by omega) (Or.inl rfl) u1 ?_
                  refine V.vret (pc := 156) dX6_listen_156 rfl ?_
                  refine hq _ _ ?_ ?_ ?_ ?_
                  · first | exact updF_s | (show hi 33 2 = _; rw [show siF σ w p = w.2.2 by unfold siF; rw [if_neg (by omega)]]; exact hW.2.2.2)
                  · first | rfl | exact updF_n (by decide)
                  · rw [updF_s]
                    first
                    | (rw [hB_X (by omega)]; done)
                    | (rw [hB_m (by omega)]; rfl)
                    | (rw [hB_n (by omega) (encC_none.mp h81)]; rfl)
                    | (rw [hB_s (by omega) (bt_true h93)]; rfl)
                    | (rw [hB_y (by omega) hv hbf, hA1, Bool.or_true]; rfl)
                    | (rw [hB_y (by omega) hv hbf, hA0, show (so σ (sp' σ p) != 4) = true by simp; omega]; rfl)
                    | (rw [hB_y (by omega) hv hbf, hA0, show (so σ (sp' σ p) != 4) = false by simp; omega]; rfl)
                  · intro j hj; first | exact updF_n (by omega) | (rw [updF_n (by omega), updF_n (by omega)])
                · skip
                  refine V.iconst (pc := 150) (z := 1) dX6_listen_150 rfl ⟨by decide, by decide⟩ ?_
                  refine V.goto (pc := 151) 155 dX6_listen_151 (by decide) ?_
                  refine V.zs (pc := 155) (len := 16) (hi' := (upR (upR hi 33 (hi 33)) 35 (updF (updF (hi 35) p 0) p 1))) p dX6_listen_155 (kS_35) (rfl) (by omega) (Or.inr rfl) u1 ?_
                  refine V.vret (pc := 156) dX6_listen_156 rfl ?_
                  refine hq _ _ ?_ ?_ ?_ ?_
                  · first | exact updF_s | (show hi 33 2 = _; rw [show siF σ w p = w.2.2 by unfold siF; rw [if_neg (by omega)]]; exact hW.2.2.2)
                  · first | rfl | exact updF_n (by decide)
                  · rw [updF_s]
                    first
                    | (rw [hB_X (by omega)]; done)
                    | (rw [hB_m (by omega)]; rfl)
                    | (rw [hB_n (by omega) (encC_none.mp h81)]; rfl)
                    | (rw [hB_s (by omega) (bt_true h93)]; rfl)
                    | (rw [hB_y (by omega) hv hbf, hA1, Bool.or_true]; rfl)
                    | (rw [hB_y (by omega) hv hbf, hA0, show (so σ (sp' σ p) != 4) = true by simp; omega]; rfl)
                    | (rw [hB_y (by omega) hv hbf, hA0, show (so σ (sp' σ p) != 4) = false by simp; omega]; rfl)
                  · intro j hj; first | exact updF_n (by omega) | (rw [updF_n (by omega), updF_n (by omega)])
              · skip
                refine V.aload_n (pc := 111) 2 dX6_listen_111 rfl ?_
                refine V.gr (pc := 112) 0 2 13 flX6_29 dX6_listen_112 (kS_10) (by decide) (by decide) rfl (kR_10_2) ?_
                refine V.iload_n (pc := 115) 3 dX6_listen_115 rfl ?_
                refine V.callV (pc := 116) (e1 := eX1_isAnswer) (o := 13) (c := 1) 1 [vI ((p : Nat) : Int)] [] mfX1_isAnswer slX1_isAnswer mlX6_65 dX6_listen_116 (kS_13) (by decide) rfl rfl rfl (Nat.le_of_ble_eq_true rfl) ⟨by decide, by decide, by decide, by decide⟩ ?_
                refine c_X1_isAnswer (upR (upR hi 33 (hi 33)) 35 (updF (hi 35) p 0)) hl p (by omega) _ (fun hans => ?_) (fun hans => ?_)
                · have hans2 : hi 14 (p - 1) = hi 15 p ∧ hi 15 (p - 1) = hi 14 p := hans
                  have hCq := hC.2.2.2.2.1 (p - 1) (by omega)
                  have q1 : hi 14 (p - 1) = _ := hCq.1
                  have q2 : hi 15 (p - 1) = _ := hCq.2.1
                  have q3 : hi 15 p = _ := hCp.2.1
                  have q4 : hi 14 p = _ := hCp.1
                  rw [q1, q2, q3, q4] at hans2
                  have hA1 : ansB σ w p = true := ansB_iff.mpr ⟨by omega, by cases hb9 : w.2.1 (p - 1) with | true => rfl | false => exact absurd (by rw [hb9]; rfl) h108, by omega, by omega⟩
                  refine V.qI (pc := 116) rfl rfl ?_
                  refine V.if_eq (pc := 119) 126 dX6_listen_119 (by decide) (fun hc => by exact absurd hc (by decide)) (fun h119 => ?_)
                  refine V.iconst (pc := 122) (z := 1) dX6_listen_122 rfl ⟨by decide, by decide⟩ ?_
                  refine V.goto (pc := 123) 127 dX6_listen_123 (by decide) ?_
                  refine V.istore (pc := 127) (i := 5) dX6_listen_127 (by decide) (ls' := [(5, vI 1), (4, vI ((sp' σ p : Nat) : Int)), (0, vR 33), (1, vR 10), (2, vI ((p : Nat) : Int)), (3, vI (b2i first))]) rfl ?_
                  refine V.aload_n (pc := 129) 2 dX6_listen_129 rfl ?_
                  refine V.gr (pc := 130) 6 1 35 flX6_15 dX6_listen_130 (kS_33) (by decide) (by decide) rfl (kR_33_1) ?_
                  refine V.iload_n (pc := 133) 4 dX6_listen_133 rfl ?_
                  refine V.iload (pc := 134) 0 dX6_listen_134 rfl ?_
                  refine V.if_ne (pc := 136) 150 dX6_listen_136 (by decide) (fun h136 => ?_) (fun hc => by exact absurd hc (by decide))
                  refine V.iconst (pc := 150) (z := 1) dX6_listen_150 rfl ⟨by decide, by decide⟩ ?_
                  refine V.goto (pc := 151) 155 dX6_listen_151 (by decide) ?_
                  refine V.zs (pc := 155) (len := 16) (hi' := (upR (upR hi 33 (hi 33)) 35 (updF (updF (hi 35) p 0) p 1))) p dX6_listen_155 (kS_35) (rfl) (by omega) (Or.inr rfl) u1 ?_
                  refine V.vret (pc := 156) dX6_listen_156 rfl ?_
                  refine hq _ _ ?_ ?_ ?_ ?_
                  · first | exact updF_s | (show hi 33 2 = _; rw [show siF σ w p = w.2.2 by unfold siF; rw [if_neg (by omega)]]; exact hW.2.2.2)
                  · first | rfl | exact updF_n (by decide)
                  · rw [updF_s]
                    first
                    | (rw [hB_X (by omega)]; done)
                    | (rw [hB_m (by omega)]; rfl)
                    | (rw [hB_n (by omega) (encC_none.mp h81)]; rfl)
                    | (rw [hB_s (by omega) (bt_true h93)]; rfl)
                    | (rw [hB_y (by omega) hv hbf, hA1, Bool.or_true]; rfl)
                    | (rw [hB_y (by omega) hv hbf, hA0, show (so σ (sp' σ p) != 4) = true by simp; omega]; rfl)
                    | (rw [hB_y (by omega) hv hbf, hA0, show (so σ (sp' σ p) != 4) = false by simp; omega]; rfl)
                  · intro j hj; first | exact updF_n (by omega) | (rw [updF_n (by omega), updF_n (by omega)])
                · have hans2 : ¬ (hi 14 (p - 1) = hi 15 p ∧ hi 15 (p - 1) = hi 14 p) := hans
                  have hCq := hC.2.2.2.2.1 (p - 1) (by omega)
                  have q1 : hi 14 (p - 1) = _ := hCq.1
                  have q2 : hi 15 (p - 1) = _ := hCq.2.1
                  have q3 : hi 15 p = _ := hCp.2.1
                  have q4 : hi 14 p = _ := hCp.1
                  rw [q1, q2, q3, q4] at hans2
                  have hA0 : ansB σ w p = false := ansB_f (fun q => hans2 ⟨by omega, by omega⟩)
                  refine V.qI (pc := 116) rfl rfl ?_
                  refine V.if_eq (pc := 119) 126 dX6_listen_119 (by decide) (fun h119 => ?_) (fun hc => by exact absurd hc (by decide))
                  refine V.iconst (pc := 126) (z := 0) dX6_listen_126 rfl ⟨by decide, by decide⟩ ?_
                  refine V.istore (pc := 127) (i := 5) dX6_listen_127 (by decide) (ls' := [(5, vI 0), (4, vI ((sp' σ p : Nat) : Int)), (0, vR 33), (1, vR 10), (2, vI ((p : Nat) : Int)), (3, vI (b2i first))]) rfl ?_
                  refine V.aload_n (pc := 129) 2 dX6_listen_129 rfl ?_
                  refine V.gr (pc := 130) 6 1 35 flX6_15 dX6_listen_130 (kS_33) (by decide) (by decide) rfl (kR_33_1) ?_
                  refine V.iload_n (pc := 133) 4 dX6_listen_133 rfl ?_
                  refine V.iload (pc := 134) 0 dX6_listen_134 rfl ?_
                  refine V.if_ne (pc := 136) 150 dX6_listen_136 (by decide) (fun hc => by exact absurd hc (by decide)) (fun h136 => ?_)
                  refine V.aload_n (pc := 139) 3 dX6_listen_139 rfl ?_
                  refine V.gr (pc := 140) 0 0 11 flX6_68 dX6_listen_140 (kS_10) (by decide) (by decide) rfl (kR_10_0) ?_
                  refine V.iload (pc := 143) 1 dX6_listen_143 rfl ?_
                  refine V.ia (pc := 145) (len := 6) (sp' σ p) ((so σ (sp' σ p) : Nat) : Int) dX6_listen_145 (kS_11) (rfl) (by omega) (hC.2.1 _ (by omega)) ?_
                  refine V.iconst (pc := 146) (z := 4) dX6_listen_146 rfl ⟨by decide, by decide⟩ ?_
                  refine V.icmp_eq (pc := 147) 154 dX6_listen_147 (by decide) (fun h147 => ?_) (fun h147 => ?_)
                  · skip
                    refine V.iconst (pc := 154) (z := 0) dX6_listen_154 rfl ⟨by decide, by decide⟩ ?_
                    refine V.zs (pc := 155) (len := 16) (hi' := (upR (upR hi 33 (hi 33)) 35 (updF (updF (hi 35) p 0) p 0))) p dX6_listen_155 (kS_35) (rfl) (by omega) (Or.inl rfl) u1 ?_
                    refine V.vret (pc := 156) dX6_listen_156 rfl ?_
                    refine hq _ _ ?_ ?_ ?_ ?_
                    · first | exact updF_s | (show hi 33 2 = _; rw [show siF σ w p = w.2.2 by unfold siF; rw [if_neg (by omega)]]; exact hW.2.2.2)
                    · first | rfl | exact updF_n (by decide)
                    · rw [updF_s]
                      first
                      | (rw [hB_X (by omega)]; done)
                      | (rw [hB_m (by omega)]; rfl)
                      | (rw [hB_n (by omega) (encC_none.mp h81)]; rfl)
                      | (rw [hB_s (by omega) (bt_true h93)]; rfl)
                      | (rw [hB_y (by omega) hv hbf, hA1, Bool.or_true]; rfl)
                      | (rw [hB_y (by omega) hv hbf, hA0, show (so σ (sp' σ p) != 4) = true by simp; omega]; rfl)
                      | (rw [hB_y (by omega) hv hbf, hA0, show (so σ (sp' σ p) != 4) = false by simp; omega]; rfl)
                    · intro j hj; first | exact updF_n (by omega) | (rw [updF_n (by omega), updF_n (by omega)])
                  · skip
                    refine V.iconst (pc := 150) (z := 1) dX6_listen_150 rfl ⟨by decide, by decide⟩ ?_
                    refine V.goto (pc := 151) 155 dX6_listen_151 (by decide) ?_
                    refine V.zs (pc := 155) (len := 16) (hi' := (upR (upR hi 33 (hi 33)) 35 (updF (updF (hi 35) p 0) p 1))) p dX6_listen_155 (kS_35) (rfl) (by omega) (Or.inr rfl) u1 ?_
                    refine V.vret (pc := 156) dX6_listen_156 rfl ?_
                    refine hq _ _ ?_ ?_ ?_ ?_
                    · first | exact updF_s | (show hi 33 2 = _; rw [show siF σ w p = w.2.2 by unfold siF; rw [if_neg (by omega)]]; exact hW.2.2.2)
                    · first | rfl | exact updF_n (by decide)
                    · rw [updF_s]
                      first
                      | (rw [hB_X (by omega)]; done)
                      | (rw [hB_m (by omega)]; rfl)
                      | (rw [hB_n (by omega) (encC_none.mp h81)]; rfl)
                      | (rw [hB_s (by omega) (bt_true h93)]; rfl)
                      | (rw [hB_y (by omega) hv hbf, hA1, Bool.or_true]; rfl)
                      | (rw [hB_y (by omega) hv hbf, hA0, show (so σ (sp' σ p) != 4) = true by simp; omega]; rfl)
                      | (rw [hB_y (by omega) hv hbf, hA0, show (so σ (sp' σ p) != 4) = false by simp; omega]; rfl)
                    · intro j hj; first | exact updF_n (by omega) | (rw [updF_n (by omega), updF_n (by omega)])
    · skip
      refine V.aload_n (pc := 42) 1 dX6_listen_42 rfl ?_
      refine V.dup (pc := 43) dX6_listen_43 rfl ?_
      refine V.gi (pc := 44) 6 2 ((w.2.2 : Nat) : Int) flX6_19 dX6_listen_44 (kS_33) (by decide) (by decide) rfl (hW.2.2.2) ?_
      refine V.iconst (pc := 47) (z := 1) dX6_listen_47 rfl ⟨by decide, by decide⟩ ?_
      refine V.aload_n (pc := 48) 2 dX6_listen_48 rfl ?_
      refine V.gr (pc := 49) 0 2 13 flX6_29 dX6_listen_49 (kS_10) (by decide) (by decide) rfl (kR_10_2) ?_
      refine V.gr (pc := 52) 1 1 15 flX6_58 dX6_listen_52 (kS_13) (by decide) (by decide) rfl (kR_13_1) ?_
      refine V.iload_n (pc := 55) 3 dX6_listen_55 rfl ?_
      refine V.ia (pc := 56) (len := 16) p ((he σ p : Nat) : Int) dX6_listen_56 (kS_15) (rfl) (by omega) (hCp.2.1) ?_
      have hpw := Nat.pow_le_pow_right (show 0 < 2 by omega) hpp.2.1
      refine V.ishl (pc := 57) (((1 * 2 ^ he σ p : Nat) : Int)) dX6_listen_57 (sN (a := 1) (by omega) (by have := Nat.pow_le_pow_right (show 0 < 2 by omega) hpp.2.1; omega)) (rI_n (by omega)) ?_
      refine V.ixor (pc := 58) (((siF σ w p : Nat) : Int)) dX6_listen_58 (by have e := xN w.2.2 (1 * 2 ^ he σ p); rw [show siF σ w p = w.2.2 ^^^ (1 * 2 ^ he σ p) by unfold siF; rw [if_pos (by omega)]]; exact e) (rI_n (by omega)) ?_
      refine V.pi (pc := 59) (hi' := (upR (upR hi 33 (updF (hi 33) 2 ((siF σ w p : Nat) : Int))) 35 (updF (hi 35) p 0))) 6 2 flX6_19 dX6_listen_59 (kS_33) (by decide) (by decide) rfl rfl (us (by decide) u1) ?_
      refine V.goto (pc := 62) 156 dX6_listen_62 (by decide) ?_
      refine V.vret (pc := 156) dX6_listen_156 rfl ?_
      refine hq _ _ ?_ ?_ ?_ ?_
      · first | exact updF_s | (show hi 33 2 = _; rw [show siF σ w p = w.2.2 by unfold siF; rw [if_neg (by omega)]]; exact hW.2.2.2)
      · first | rfl | exact updF_n (by decide)
      · rw [updF_s]
        first
        | (rw [hB_X (by omega)]; done)
        | (rw [hB_m (by omega)]; rfl)
        | (rw [hB_n (by omega) (encC_none.mp h81)]; rfl)
        | (rw [hB_s (by omega) (bt_true h93)]; rfl)
        | (rw [hB_y (by omega) hv hbf, hA1, Bool.or_true]; rfl)
        | (rw [hB_y (by omega) hv hbf, hA0, show (so σ (sp' σ p) != 4) = true by simp; omega]; rfl)
        | (rw [hB_y (by omega) hv hbf, hA0, show (so σ (sp' σ p) != 4) = false by simp; omega]; rfl)
      · intro j hj; first | exact updF_n (by omega) | (rw [updF_n (by omega), updF_n (by omega)])
  · skip
    refine V.aload_n (pc := 25) 1 dX6_listen_25 rfl ?_
    refine V.gr (pc := 26) 6 1 35 flX6_15 dX6_listen_26 (kS_33) (by decide) (by decide) rfl (kR_33_1) ?_
    refine V.iload_n (pc := 29) 3 dX6_listen_29 rfl ?_
    refine V.iload_n (pc := 30) 4 dX6_listen_30 rfl ?_
    refine V.zs (pc := 31) (len := 16) (hi' := (upR (upR hi 33 (hi 33)) 35 (updF (updF (hi 35) p 0) p (b2i first)))) p dX6_listen_31 (kS_35) (rfl) (by omega) (b2i_01 first) u1 ?_
    refine V.goto (pc := 32) 156 dX6_listen_32 (by decide) ?_
    refine V.vret (pc := 156) dX6_listen_156 rfl ?_
    refine hq _ _ ?_ ?_ ?_ ?_
    · first | exact updF_s | (show hi 33 2 = _; rw [show siF σ w p = w.2.2 by unfold siF; rw [if_neg (by omega)]]; exact hW.2.2.2)
    · first | rfl | exact updF_n (by decide)
    · rw [updF_s]
      first
      | (rw [hB_X (by omega)]; done)
      | (rw [hB_m (by omega)]; rfl)
      | (rw [hB_n (by omega) (encC_none.mp h81)]; rfl)
      | (rw [hB_s (by omega) (bt_true h93)]; rfl)
      | (rw [hB_y (by omega) hv hbf, hA1, Bool.or_true]; rfl)
      | (rw [hB_y (by omega) hv hbf, hA0, show (so σ (sp' σ p) != 4) = true by simp; omega]; rfl)
      | (rw [hB_y (by omega) hv hbf, hA0, show (so σ (sp' σ p) != 4) = false by simp; omega]; rfl)
    · intro j hj; first | exact updF_n (by omega) | (rw [updF_n (by omega), updF_n (by omega)])

