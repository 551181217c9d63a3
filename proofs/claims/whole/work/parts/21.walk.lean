set_option maxRecDepth 100000 in
theorem c_X6_forgetAll (hi hl : HI) (Q : QT) (hq : ∀ f, (∀ b, b < 6 → f b = -1) → Q none KW (upR hi 34 f) hl) : Con eX6_forgetAll [vR 33] KW hi hl Q := by
  refine Con.ofV (by decide +kernel) (Nat.le_of_ble_eq_true rfl) ?_
  show V eX6_forgetAll none KW 0 [(0, vR 33)] [] hi hl 0 0 Q
  refine V.hieq (hi' := (upR hi 34 (hi 34))) (by rw [upR_id]) ?_
  refine V.iconst (pc := 0) (z := 0) dX6_forgetAll_0 rfl ⟨by decide, by decide⟩ ?_
  refine V.istore_n (pc := 1) (i := 1) dX6_forgetAll_1 rfl (by decide) (ls' := [(1, vI 0), (0, vR 33)]) rfl ?_
  have lp2 : ∀ (fu2 : Nat) (k : Nat) (f : Nat → Int), (k ≤ 6) → (∀ b, b < k → f b = -1) → 6 - k < fu2 → V eX6_forgetAll none KW 2 [(0, vR 33), (1, vI ((k : Nat) : Int))] [] (upR hi 34 f) hl 0 0 Q := by
    intro fu2
    induction fu2 with
    | zero => intro k f hk hC hm2; exact absurd hm2 (Nat.not_lt_zero _)
    | succ fu2 ih2 =>
      intro k f hk hC hm2
      refine V.iload_n (pc := 2) 1 dX6_forgetAll_2 rfl ?_
      refine V.bipush (pc := 3) (z := 6) dX6_forgetAll_3 (by decide +kernel) ⟨by decide, by decide⟩ ?_
      refine V.icmp_ge (pc := 5) 21 dX6_forgetAll_5 (by decide) (fun h5 => ?_) (fun h5 => ?_)
      · skip
        refine V.vret (pc := 21) dX6_forgetAll_21 rfl ?_
        exact hq _ (fun b hb => hC b (by omega))
      · skip
        refine V.aload_n (pc := 8) 0 dX6_forgetAll_8 rfl ?_
        refine V.gr (pc := 9) 6 0 34 flX6_9 dX6_forgetAll_9 (kS_33) (by decide) (by decide) rfl (kR_33_0) ?_
        refine V.iload_n (pc := 12) 1 dX6_forgetAll_12 rfl ?_
        refine V.iconst (pc := 13) (z := (-1)) dX6_forgetAll_13 rfl ⟨by decide, by decide⟩ ?_
        refine V.is (pc := 14) (len := 6) (hi' := (upR hi 34 (updF f k (-1)))) k dX6_forgetAll_14 (kS_34) (rfl) (by omega) u1 ?_
        refine V.iinc (pc := 15) (r := ((k + 1 : Nat) : Int)) 1 dX6_forgetAll_15 rfl (w32_of (by omega) (by omega) (by omega)) (by decide) (ls' := [(1, vI ((k + 1 : Nat) : Int)), (0, vR 33)]) rfl ?_
        refine V.goto (pc := 18) 2 dX6_forgetAll_18 (by decide) ?_
        refine V.locs [1, 0] (ls' := [(0, vR 33), (1, vI ((k + 1 : Nat) : Int))]) rfl ?_
        exact ih2 (k + 1) (updF f k (-1)) (by omega) (fun b hb => by by_cases e : b = k; { rw [e, updF_s] }; { rw [updF_n e]; exact hC b (by omega) }) (by omega)
  refine V.locs [1, 0] (ls' := [(0, vR 33), (1, vI 0)]) rfl ?_
  exact lp2 _ 0 (hi 34) (by omega) (fun b hb => absurd hb (Nat.not_lt_zero b)) (Nat.lt_succ_self _)

set_option maxRecDepth 100000 in
theorem c_X6_nextSeed (hi hl : HI) (x : Nat) (hx : x < 65537) (hs : hi 33 3 = (x : Nat)) (Q : QT) (hq : Q none KW (upR hi 33 (updF (hi 33) 3 ((nx x : Nat) : Int))) hl) : Con eX6_nextSeed [vR 33] KW hi hl Q := by
  refine Con.ofV (by decide +kernel) (Nat.le_of_ble_eq_true rfl) ?_
  show V eX6_nextSeed none KW 0 [(0, vR 33)] [] hi hl 0 0 Q
  refine V.hieq (hi' := (upR hi 33 (hi 33))) (by rw [upR_id]) ?_
  refine V.aload_n (pc := 0) 0 dX6_nextSeed_0 rfl ?_
  refine V.bipush (pc := 1) (z := 75) dX6_nextSeed_1 (by decide +kernel) ⟨by decide, by decide⟩ ?_
  refine V.aload_n (pc := 3) 0 dX6_nextSeed_3 rfl ?_
  refine V.gi (pc := 4) 6 3 ((x : Nat) : Int) flX6_23 dX6_nextSeed_4 (kS_33) (by decide) (by decide) rfl (hs) ?_
  refine V.imul (pc := 7) (((75 * x : Nat) : Int)) dX6_nextSeed_7 (mulN (a := 75) (b := x) (by omega)) ?_
  refine V.bipush (pc := 8) (z := 74) dX6_nextSeed_8 (by decide +kernel) ⟨by decide, by decide⟩ ?_
  refine V.iadd (pc := 10) ((((75 * x + 74) : Nat) : Int)) dX6_nextSeed_10 (addN (a := 75 * x) (b := 74) (by omega)) ?_
  refine V.ldc (pc := 11) (z := 65537) coX6_94 dX6_nextSeed_11 ⟨by decide, by decide⟩ ?_
  refine V.irem (pc := 13) ((((75 * x + 74) % 65537 : Nat) : Int)) dX6_nextSeed_13 (by omega) (mN (a := (75 * x + 74)) (b := 65537) (by omega) (by omega) (by omega)) (rI_n (by omega)) ?_
  refine V.pi (pc := 14) (hi' := (upR hi 33 (updF (hi 33) 3 (((75 * x + 74) % 65537 : Nat) : Int)))) 6 3 flX6_23 dX6_nextSeed_14 (kS_33) (by decide) (by decide) rfl rfl u1 ?_
  refine V.vret (pc := 17) dX6_nextSeed_17 rfl ?_
  exact hq

set_option maxRecDepth 100000 in
theorem c_X6_listen (hi hl : HI) (hT : TB (hi 2) (hi 3)) (σ : SG) (hC : CR hi 10 σ) (w : WS) (p : Nat) (hp : p < nn σ) (hW : WR (hi 33) (hi 34) (hi 35) w p) (first : Bool) (Q : QT) (hq : ∀ r33 r35 : Nat → Int, r33 2 = ((siF σ w p : Nat) : Int) → r33 3 = hi 33 3 → r35 p = b2i (hearsB σ first w p) → (∀ j, j < p → r35 j = hi 35 j) → Q none KW (upR (upR hi 33 r33) 35 r35) hl) : Con eX6_listen [vR 33, vR 10, vI (p : Nat), vI (b2i first)] KW hi hl Q := by
  refine Con.ofV (by decide +kernel) (Nat.le_of_ble_eq_true rfl) ?_
  show V eX6_listen none KW 0 [(0, vR 33), (1, vR 10), (2, vI ((p : Nat) : Int)), (3, vI (b2i first))] [] hi hl 0 0 Q
  refine V.hieq (hi' := (upR (upR hi 33 (hi 33)) 35 (hi 35))) (by rw [upR_id, upR_id]) ?_
  have hwf := hC.1
  have hpp := hwf.2.2.2.1 p hp
  have hn16 := hwf.2.2.1
  have hCp := hC.2.2.2.2.1 p hp
  have hok := hW.1
  have hsl := siF_lt (σ := σ) hok hpp.2.1
  refine V.aload_n (pc := 0) 1 dX6_listen_0 rfl ?_
  refine V.gr (pc := 1) 0 2 13 flX6_29 dX6_listen_1 (kS_10) (by decide) (by decide) rfl (kR_10_2) ?_
  refine V.gr (pc := 4) 1 0 14 flX6_55 dX6_listen_4 (kS_13) (by decide) (by decide) rfl (kR_13_0) ?_
  refine V.iload_n (pc := 7) 2 dX6_listen_7 rfl ?_
  refine V.ia (pc := 8) (len := 16) p ((sp' σ p : Nat) : Int) dX6_listen_8 (kS_14) (rfl) (by omega) (hCp.1) ?_
  refine V.istore (pc := 9) (i := 4) dX6_listen_9 (by decide) (ls' := [(4, vI ((sp' σ p : Nat) : Int)), (0, vR 33), (1, vR 10), (2, vI ((p : Nat) : Int)), (3, vI (b2i first))]) rfl ?_
  refine V.aload_n (pc := 11) 1 dX6_listen_11 rfl ?_
  refine V.gr (pc := 12) 6 1 35 flX6_15 dX6_listen_12 (kS_33) (by decide) (by decide) rfl (kR_33_1) ?_
  refine V.iload_n (pc := 15) 3 dX6_listen_15 rfl ?_
  refine V.iconst (pc := 16) (z := 0) dX6_listen_16 rfl ⟨by decide, by decide⟩ ?_
  refine V.zs (pc := 17) (len := 16) (hi' := (upR (upR hi 33 (hi 33)) 35 (updF (hi 35) p 0))) p dX6_listen_17 (kS_35) (rfl) (by omega) (Or.inl rfl) u1 ?_
  refine V.iload (pc := 18) 0 dX6_listen_18 rfl ?_
  refine V.bipush (pc := 20) (z := 6) dX6_listen_20 (by decide +kernel) ⟨by decide, by decide⟩ ?_
  refine V.icmp_ne (pc := 22) 35 dX6_listen_22 (by decide) (fun h22 => ?_) (fun h22 => ?_)
  · skip
    refine V.iload (pc := 35) 0 dX6_listen_35 rfl ?_
    refine V.bipush (pc := 37) (z := 7) dX6_listen_37 (by decide +kernel) ⟨by decide, by decide⟩ ?_
    refine V.icmp_ne (pc := 39) 65 dX6_listen_39 (by decide) (fun h39 => ?_) (fun h39 => ?_)
    · skip
      refine V.iload (pc := 65) 0 dX6_listen_65 rfl ?_
      refine V.callS (pc := 67) (e1 := eX7_isBird) 1 [vI ((sp' σ p : Nat) : Int)] [] mfX7_isBird slX7_isBird mlX6_61 dX6_listen_67 rfl rfl (Nat.le_of_ble_eq_true rfl) ⟨by decide, by decide, by decide, by decide⟩ ?_
      refine c_X7_isBird KW (upR (upR hi 33 (hi 33)) 35 (updF (hi 35) p 0)) hl ((sp' σ p : Nat) : Int) _ (fun hb => ?_) (fun hb => absurd hb (by omega))
      · skip
        refine V.qI (pc := 67) rfl rfl ?_
        refine V.if_eq (pc := 70) 156 dX6_listen_70 (by decide) (fun hc => by exact absurd hc (by decide)) (fun h70 => ?_)
        refine V.aload_n (pc := 73) 1 dX6_listen_73 rfl ?_
        refine V.gr (pc := 74) 6 0 34 flX6_9 dX6_listen_74 (kS_33) (by decide) (by decide) rfl (kR_33_0) ?_
        refine V.iload (pc := 77) 0 dX6_listen_77 rfl ?_
        refine V.ia (pc := 79) (len := 6) (sp' σ p) (encC (w.1 (sp' σ p))) dX6_listen_79 (kS_34) (rfl) (by omega) (hW.2.1 _ (by omega)) ?_
        refine V.iconst (pc := 80) (z := (-1)) dX6_listen_80 rfl ⟨by decide, by decide⟩ ?_
        refine V.icmp_eq (pc := 81) 156 dX6_listen_81 (by decide) (fun h81 => ?_) (fun h81 => ?_)
        · skip
          refine V.vret (pc := 156) dX6_listen_156 rfl ?_
          refine hq _ _ ?_ ?_ ?_ ?_
          · first | exact updF_s | (show hi 33 2 = _; rw [show siF σ w p = w.2.2 by unfold siF; rw [if_neg (by omega)]]; exact hW.2.2.2)
          · first | rfl | exact updF_n (by decide)
          · rw [updF_s]
            first
            | (rw [hB_X (by omega)]; done)
            | (rw [hB_m (by omega)]; rfl)
            | (rw [hB_n (by omega) (encC_none.mp h81)]; rfl)
            | (rw [hB_s (by omega) (bt_true h93)]; rfl)
            | (rw [hB_y (by omega) hv hbf, hA1, Bool.or_true]; rfl)
            | (rw [hB_y (by omega) hv hbf, hA0, show (so σ (sp' σ p) != 4) = true by simp; omega]; rfl)
            | (rw [hB_y (by omega) hv hbf, hA0, show (so σ (sp' σ p) != 4) = false by simp; omega]; rfl)
          · intro j hj; first | exact updF_n (by omega) | (rw [updF_n (by omega), updF_n (by omega)])
        · skip
          refine V.aload_n (pc := 84) 1 dX6_listen_84 rfl ?_
          refine V.gi (pc := 85) 6 2 ((w.2.2 : Nat) : Int) flX6_19 dX6_listen_85 (kS_33) (by decide) (by decide) rfl (hW.2.2.2) ?_
          refine V.iload (pc := 88) 0 dX6_listen_88 rfl ?_
          have hsw := hok.2
          refine V.ishr (pc := 90) (((w.2.2 / 2 ^ sp' σ p : Nat) : Int)) dX6_listen_90 (hN (a := w.2.2) (k := sp' σ p) (by omega) (by omega)) (rI_n (by have := Nat.div_le_self w.2.2 (2 ^ sp' σ p); omega)) ?_
          refine V.iconst (pc := 91) (z := 1) dX6_listen_91 rfl ⟨by decide, by decide⟩ ?_
          refine V.iand (pc := 92) (((w.2.2 / 2 ^ sp' σ p &&& 1 : Nat) : Int)) dX6_listen_92 (aN (w.2.2 / 2 ^ sp' σ p) 1) (rI_n (by rw [bit1]; split <;> omega)) ?_
          refine V.if_ne (pc := 93) 156 dX6_listen_93 (by decide) (fun h93 => ?_) (fun h93 => ?_)
          · skip
            refine V.vret (pc := 156) dX6_listen_156 rfl ?_
            refine hq _ _ ?_ ?_ ?_ ?_
            · first | exact updF_s | (show hi 33 2 = _; rw [show siF σ w p = w.2.2 by unfold siF; rw [if_neg (by omega)]]; exact hW.2.2.2)
            · first | rfl | exact updF_n (by decide)
            · rw [updF_s]
              first
              | (rw [hB_X (by omega)]; done)
              | (rw [hB_m (by omega)]; rfl)
              | (rw [hB_n (by omega) (encC_none.mp h81)]; rfl)
              | (rw [hB_s (by omega) (bt_true h93)]; rfl)
              | (rw [hB_y (by omega) hv hbf, hA1, Bool.or_true]; rfl)
              | (rw [hB_y (by omega) hv hbf, hA0, show (so σ (sp' σ p) != 4) = true by simp; omega]; rfl)
              | (rw [hB_y (by omega) hv hbf, hA0, show (so σ (sp' σ p) != 4) = false by simp; omega]; rfl)
            · intro j hj; first | exact updF_n (by omega) | (rw [updF_n (by omega), updF_n (by omega)])
          · obtain ⟨v, hv⟩ := encC_some h81
            have hbf := bt_false (show ((w.2.2 / 2 ^ sp' σ p &&& 1 : Nat) : Int) = 0 by omega)
            refine V.iload_n (pc := 96) 3 dX6_listen_96 rfl ?_
            refine V.if_le (pc := 97) 126 dX6_listen_97 (by decide) (fun h97 => ?_) (fun h97 => ?_)
            · have hA0 : ansB σ w p = false := ansB_f (fun q => by omega)
              refine V.iconst (pc := 126) (z := 0) dX6_listen_126 rfl ⟨by decide, by decide⟩ ?_
              refine V.istore (pc := 127) (i := 5) dX6_listen_127 (by decide) (ls' := [(5, vI 0), (4, vI ((sp' σ p : Nat) : Int)), (0, vR 33), (1, vR 10), (2, vI ((p : Nat) : Int)), (3, vI (b2i first))]) rfl ?_
              refine V.aload_n (pc := 129) 2 dX6_listen_129 rfl ?_
              refine V.gr (pc := 130) 6 1 35 flX6_15 dX6_listen_130 (kS_33) (by decide) (by decide) rfl (kR_33_1) ?_
              refine V.iload_n (pc := 133) 4 dX6_listen_133 rfl ?_
              refine V.iload (pc := 134) 0 dX6_listen_134 rfl ?_
              refine V.if_ne (pc := 136) 150 dX6_listen_136 (by decide) (fun hc => by exact absurd hc (by decide)) (fun h136 => ?_)
              refine V.aload_n (pc := 139) 3 dX6_listen_139 rfl ?_
              refine V.gr (pc := 140) 0 0 11 flX6_68 dX6_listen_140 (kS_10) (by decide) (by decide) rfl (kR_10_0) ?_
              refine V.iload (pc := 143) 1 dX6_listen_143 rfl ?_
              refine V.ia (pc := 145) (len := 6) (sp' σ p) ((so σ (sp' σ p) : Nat) : Int) dX6_listen_145 (kS_11) (rfl) (by omega) (hC.2.1 _ (by omega)) ?_
              refine V.iconst (pc := 146) (z := 4) dX6_listen_146 rfl ⟨by decide, by decide⟩ ?_
              refine V.icmp_eq (pc := 147) 154 dX6_listen_147 (by decide) (fun h147 => ?_) (fun h147 => ?_)
              · skip
                refine V.iconst (pc := 154) (z := 0) dX6_listen_154 rfl ⟨by decide, by decide⟩ ?_
                refine V.zs (pc := 155) (len := 16) (hi' := (upR (upR hi 33 (hi 33)) 35 (updF (updF (hi 35) p 0) p 0))) p dX6_listen_155 (kS_35) (rfl) (by omega) (Or.inl rfl) u1 ?_
                refine V.vret (pc := 156) dX6_listen_156 rfl ?_
                refine hq _ _ ?_ ?_ ?_ ?_
                · first | exact updF_s | (show hi 33 2 = _; rw [show siF σ w p = w.2.2 by unfold siF; rw [if_neg (by omega)]]; exact hW.2.2.2)
                · first | rfl | exact updF_n (by decide)
                · rw [updF_s]
                  first
                  | (rw [hB_X (by omega)]; done)
                  | (rw [hB_m (by omega)]; rfl)
                  | (rw [hB_n (by omega) (encC_none.mp h81)]; rfl)
                  | (rw [hB_s (by omega) (bt_true h93)]; rfl)
                  | (rw [hB_y (by omega) hv hbf, hA1, Bool.or_true]; rfl)
                  | (rw [hB_y (by omega) hv hbf, hA0, show (so σ (sp' σ p) != 4) = true by simp; omega]; rfl)
                  | (rw [hB_y (by omega) hv hbf, hA0, show (so σ (sp' σ p) != 4) = false by simp; omega]; rfl)
                · intro j hj; first | exact updF_n (by omega) | (rw [updF_n (by omega), updF_n (by omega)])
              · skip
                refine V.iconst (pc := 150) (z := 1) dX6_listen_150 rfl ⟨by decide, by decide⟩ ?_
                refine V.goto (pc := 151) 155 dX6_listen_151 (by decide) ?_
                refine V.zs (pc := 155) (len := 16) (hi' := (upR (upR hi 33 (hi 33)) 35 (updF (updF (hi 35) p 0) p 1))) p dX6_listen_155 (kS_35) (rfl) (by omega) (Or.inr rfl) u1 ?_
                refine V.vret (pc := 156) dX6_listen_156 rfl ?_
                refine hq _ _ ?_ ?_ ?_ ?_
                · first | exact updF_s | (show hi 33 2 = _; rw [show siF σ w p = w.2.2 by unfold siF; rw [if_neg (by omega)]]; exact hW.2.2.2)
                · first | rfl | exact updF_n (by decide)
                · rw [updF_s]
                  first
                  | (rw [hB_X (by omega)]; done)
                  | (rw [hB_m (by omega)]; rfl)
                  | (rw [hB_n (by omega) (encC_none.mp h81)]; rfl)
                  | (rw [hB_s (by omega) (bt_true h93)]; rfl)
                  | (rw [hB_y (by omega) hv hbf, hA1, Bool.or_true]; rfl)
                  | (rw [hB_y (by omega) hv hbf, hA0, show (so σ (sp' σ p) != 4) = true by simp; omega]; rfl)
                  | (rw [hB_y (by omega) hv hbf, hA0, show (so σ (sp' σ p) != 4) = false by simp; omega]; rfl)
                · intro j hj; first | exact updF_n (by omega) | (rw [updF_n (by omega), updF_n (by omega)])
            · skip
              refine V.aload_n (pc := 100) 1 dX6_listen_100 rfl ?_
              refine V.gr (pc := 101) 6 1 35 flX6_15 dX6_listen_101 (kS_33) (by decide) (by decide) rfl (kR_33_1) ?_
              refine V.iload_n (pc := 104) 3 dX6_listen_104 rfl ?_
              refine V.iconst (pc := 105) (z := 1) dX6_listen_105 rfl ⟨by decide, by decide⟩ ?_
              refine V.isub (pc := 106) (((p - 1 : Nat) : Int)) dX6_listen_106 (subN (a := p) (b := 1) (by omega) (by omega)) ?_
              refine V.za (pc := 107) (len := 16) (p - 1) (b2i (w.2.1 (p - 1))) dX6_listen_107 (kS_35) (rfl) (by omega) (by show updF (hi 35) p 0 (p - 1) = _; rw [updF_n (by omega)]; exact hW.2.2.1 _ (by omega)) ?_
              refine V.if_eq (pc := 108) 126 dX6_listen_108 (by decide) (fun h108 => ?_) (fun h108 => ?_)
              · have hA0 : ansB σ w p = false := ansB_f (fun q => by rw [q.2.1] at h108; exact absurd h108 (by decide))
                refine V.iconst (pc := 126) (z := 0) dX6_listen_126 rfl ⟨by decide, by decide⟩ ?_
                refine V.istore (pc := 127) (i := 5) dX6_listen_127 (by decide) (ls' := [(5, vI 0), (4, vI ((sp' σ p : Nat) : Int)), (0, vR 33), (1, vR 10), (2, vI ((p : Nat) : Int)), (3, vI (b2i first))]) rfl ?_
                refine V.aload_n (pc := 129) 2 dX6_listen_129 rfl ?_
                refine V.gr (pc := 130) 6 1 35 flX6_15 dX6_listen_130 (kS_33) (by decide) (by decide) rfl (kR_33_1) ?_
                refine V.iload_n (pc := 133) 4 dX6_listen_133 rfl ?_
                refine V.iload (pc := 134) 0 dX6_listen_134 rfl ?_
                refine V.if_ne (pc := 136) 150 dX6_listen_136 (by decide) (fun hc => by exact absurd hc (by decide)) (fun h136 => ?_)
                refine V.aload_n (pc := 139) 3 dX6_listen_139 rfl ?_
                refine V.gr (pc := 140) 0 0 11 flX6_68 dX6_listen_140 (kS_10) (by decide) (by decide) rfl (kR_10_0) ?_
                refine V.iload (pc := 143) 1 dX6_listen_143 rfl ?_
                refine V.ia (pc := 145) (len := 6) (sp' σ p) ((so σ (sp' σ p) : Nat) : Int) dX6_listen_145 (kS_11) (rfl) (by omega) (hC.2.1 _ (by omega)) ?_
                refine V.iconst (pc := 146) (z := 4) dX6_listen_146 rfl ⟨by decide, by decide⟩ ?_
                refine V.icmp_eq (pc := 147) 154 dX6_listen_147 (by decide) (fun h147 => ?_) (fun h147 => ?_)
                · skip
                  refine V.iconst (pc := 154) (z := 0) dX6_listen_154 rfl ⟨by decide, by decide⟩ ?_
                  refine V.zs (pc := 155) (len := 16) (hi' := (upR (upR hi 33 (hi 33)) 35 (updF (updF (hi 35) p 0) p 0))) p dX6_listen_155 (kS_35) (rfl) (by omega) (Or.inl rfl) u1 ?_
                  refine V.vret (pc := 156) dX6_listen_156 rfl ?_
                  refine hq _ _ ?_ ?_ ?_ ?_
                  · first | exact updF_s | (show hi 33 2 = _; rw [show siF σ w p = w.2.2 by unfold siF; rw [if_neg (by omega)]]; exact hW.2.2.2)
                  · first | rfl | exact updF_n (by decide)
                  · rw [updF_s]
                    first
                    | (rw [hB_X (by omega)]; done)
                    | (rw [hB_m (by omega)]; rfl)
                    | (rw [hB_n (by omega) (encC_none.mp h81)]; rfl)
                    | (rw [hB_s (by omega) (bt_true h93)]; rfl)
                    | (rw [hB_y (by omega) hv hbf, hA1, Bool.or_true]; rfl)
                    | (rw [hB_y (by omega) hv hbf, hA0, show (so σ (sp' σ p) != 4) = true by simp; omega]; rfl)
                    | (rw [hB_y (by omega) hv hbf, hA0, show (so σ (sp' σ p) != 4) = false by simp; omega]; rfl)
                  · intro j hj; first | exact updF_n (by omega) | (rw [updF_n (by omega), updF_n (by omega)])
                · skip
                  refine V.iconst (pc := 150) (z := 1) dX6_listen_150 rfl ⟨by decide, by decide⟩ ?_
                  refine V.goto (pc := 151) 155 dX6_listen_151 (by decide) ?_
                  refine V.zs (pc := 155) (len := 16) (hi' := (upR (upR hi 33 (hi 33)) 35 (updF (updF (hi 35) p 0) p 1))) p dX6_listen_155 (kS_35) (rfl) (by omega) (Or.inr rfl) u1 ?_
                  refine V.vret (pc := 156) dX6_listen_156 rfl ?_
                  refine hq _ _ ?_ ?_ ?_ ?_
                  · first | exact updF_s | (show hi 33 2 = _; rw [show siF σ w p = w.2.2 by unfold siF; rw [if_neg (by omega)]]; exact hW.2.2.2)
                  · first | rfl | exact updF_n (by decide)
                  · rw [updF_s]
                    first
                    | (rw [hB_X (by omega)]; done)
                    | (rw [hB_m (by omega)]; rfl)
                    | (rw [hB_n (by omega) (encC_none.mp h81)]; rfl)
                    | (rw [hB_s (by omega) (bt_true h93)]; rfl)
                    | (rw [hB_y (by omega) hv hbf, hA1, Bool.or_true]; rfl)
                    | (rw [hB_y (by omega) hv hbf, hA0, show (so σ (sp' σ p) != 4) = true by simp; omega]; rfl)
                    | (rw [hB_y (by omega) hv hbf, hA0, show (so σ (sp' σ p) != 4) = false by simp; omega]; rfl)
                  · intro j hj; first | exact updF_n (by omega) | (rw [updF_n (by omega), updF_n (by omega)])
              · skip
                refine V.aload_n (pc := 111) 2 dX6_listen_111 rfl ?_
                refine V.gr (pc := 112) 0 2 13 flX6_29 dX6_listen_112 (kS_10) (by decide) (by decide) rfl (kR_10_2) ?_
                refine V.iload_n (pc := 115) 3 dX6_listen_115 rfl ?_
                refine V.callV (pc := 116) (e1 := eX1_isAnswer) (o := 13) (c := 1) 1 [vI ((p : Nat) : Int)] [] mfX1_isAnswer slX1_isAnswer mlX6_65 dX6_listen_116 (kS_13) (by decide) rfl rfl rfl (Nat.le_of_ble_eq_true rfl) ⟨by decide, by decide, by decide, by decide⟩ ?_
                refine c_X1_isAnswer (upR (upR hi 33 (hi 33)) 35 (updF (hi 35) p 0)) hl p (by omega) _ (fun hans => ?_) (fun hans => ?_)
                · have hans2 : hi 14 (p - 1) = hi 15 p ∧ hi 15 (p - 1) = hi 14 p := hans
                  have hCq := hC.2.2.2.2.1 (p - 1) (by omega)
                  have q1 : hi 14 (p - 1) = _ := hCq.1
                  have q2 : hi 15 (p - 1) = _ := hCq.2.1
                  have q3 : hi 15 p = _ := hCp.2.1
                  have q4 : hi 14 p = _ := hCp.1
                  rw [q1, q2, q3, q4] at hans2
                  have hA1 : ansB σ w p = true := ansB_iff.mpr ⟨by omega, by cases hb9 : w.2.1 (p - 1) with | true => rfl | false => exact absurd (by rw [hb9]; rfl) h108, by omega, by omega⟩
                  refine V.qI (pc := 116) rfl rfl ?_
                  refine V.if_eq (pc := 119) 126 dX6_listen_119 (by decide) (fun hc => by exact absurd hc (by decide)) (fun h119 => ?_)
                  refine V.iconst (pc := 122) (z := 1) dX6_listen_122 rfl ⟨by decide, by decide⟩ ?_
                  refine V.goto (pc := 123) 127 dX6_listen_123 (by decide) ?_
                  refine V.istore (pc := 127) (i := 5) dX6_listen_127 (by decide) (ls' := [(5, vI 1), (4, vI ((sp' σ p : Nat) : Int)), (0, vR 33), (1, vR 10), (2, vI ((p : Nat) : Int)), (3, vI (b2i first))]) rfl ?_
                  refine V.aload_n (pc := 129) 2 dX6_listen_129 rfl ?_
                  refine V.gr (pc := 130) 6 1 35 flX6_15 dX6_listen_130 (kS_33) (by decide) (by decide) rfl (kR_33_1) ?_
                  refine V.iload_n (pc := 133) 4 dX6_listen_133 rfl ?_
                  refine V.iload (pc := 134) 0 dX6_listen_134 rfl ?_
                  refine V.if_ne (pc := 136) 150 dX6_listen_136 (by decide) (fun h136 => ?_) (fun hc => by exact absurd hc (by decide))
                  refine V.iconst (pc := 150) (z := 1) dX6_listen_150 rfl ⟨by decide, by decide⟩ ?_
                  refine V.goto (pc := 151) 155 dX6_listen_151 (by decide) ?_
                  refine V.zs (pc := 155) (len := 16) (hi' := (upR (upR hi 33 (hi 33)) 35 (updF (updF (hi 35) p 0) p 1))) p dX6_listen_155 (kS_35) (rfl) (by omega) (Or.inr rfl) u1 ?_
                  refine V.vret (pc := 156) dX6_listen_156 rfl ?_
                  refine hq _ _ ?_ ?_ ?_ ?_
                  · first | exact updF_s | (show hi 33 2 = _; rw [show siF σ w p = w.2.2 by unfold siF; rw [if_neg (by omega)]]; exact hW.2.2.2)
                  · first | rfl | exact updF_n (by decide)
                  · rw [updF_s]
                    first
                    | (rw [hB_X (by omega)]; done)
                    | (rw [hB_m (by omega)]; rfl)
                    | (rw [hB_n (by omega) (encC_none.mp h81)]; rfl)
                    | (rw [hB_s (by omega) (bt_true h93)]; rfl)
                    | (rw [hB_y (by omega) hv hbf, hA1, Bool.or_true]; rfl)
                    | (rw [hB_y (by omega) hv hbf, hA0, show (so σ (sp' σ p) != 4) = true by simp; omega]; rfl)
                    | (rw [hB_y (by omega) hv hbf, hA0, show (so σ (sp' σ p) != 4) = false by simp; omega]; rfl)
                  · intro j hj; first | exact updF_n (by omega) | (rw [updF_n (by omega), updF_n (by omega)])
                · have hans2 : ¬ (hi 14 (p - 1) = hi 15 p ∧ hi 15 (p - 1) = hi 14 p) := hans
                  have hCq := hC.2.2.2.2.1 (p - 1) (by omega)
                  have q1 : hi 14 (p - 1) = _ := hCq.1
                  have q2 : hi 15 (p - 1) = _ := hCq.2.1
                  have q3 : hi 15 p = _ := hCp.2.1
                  have q4 : hi 14 p = _ := hCp.1
                  rw [q1, q2, q3, q4] at hans2
                  have hA0 : ansB σ w p = false := ansB_f (fun q => hans2 ⟨by omega, by omega⟩)
                  refine V.qI (pc := 116) rfl rfl ?_
                  refine V.if_eq (pc := 119) 126 dX6_listen_119 (by decide) (fun h119 => ?_) (fun hc => by exact absurd hc (by decide))
                  refine V.iconst (pc := 126) (z := 0) dX6_listen_126 rfl ⟨by decide, by decide⟩ ?_
                  refine V.istore (pc := 127) (i := 5) dX6_listen_127 (by decide) (ls' := [(5, vI 0), (4, vI ((sp' σ p : Nat) : Int)), (0, vR 33), (1, vR 10), (2, vI ((p : Nat) : Int)), (3, vI (b2i first))]) rfl ?_
                  refine V.aload_n (pc := 129) 2 dX6_listen_129 rfl ?_
                  refine V.gr (pc := 130) 6 1 35 flX6_15 dX6_listen_130 (kS_33) (by decide) (by decide) rfl (kR_33_1) ?_
                  refine V.iload_n (pc := 133) 4 dX6_listen_133 rfl ?_
                  refine V.iload (pc := 134) 0 dX6_listen_134 rfl ?_
                  refine V.if_ne (pc := 136) 150 dX6_listen_136 (by decide) (fun hc => by exact absurd hc (by decide)) (fun h136 => ?_)
                  refine V.aload_n (pc := 139) 3 dX6_listen_139 rfl ?_
                  refine V.gr (pc := 140) 0 0 11 flX6_68 dX6_listen_140 (kS_10) (by decide) (by decide) rfl (kR_10_0) ?_
                  refine V.iload (pc := 143) 1 dX6_listen_143 rfl ?_
                  refine V.ia (pc := 145) (len := 6) (sp' σ p) ((so σ (sp' σ p) : Nat) : Int) dX6_listen_145 (kS_11) (rfl) (by omega) (hC.2.1 _ (by omega)) ?_
                  refine V.iconst (pc := 146) (z := 4) dX6_listen_146 rfl ⟨by decide, by decide⟩ ?_
                  refine V.icmp_eq (pc := 147) 154 dX6_listen_147 (by decide) (fun h147 => ?_) (fun h147 => ?_)
                  · skip
                    refine V.iconst (pc := 154) (z := 0) dX6_listen_154 rfl ⟨by decide, by decide⟩ ?_
                    refine V.zs (pc := 155) (len := 16) (hi' := (upR (upR hi 33 (hi 33)) 35 (updF (updF (hi 35) p 0) p 0))) p dX6_listen_155 (kS_35) (rfl) (by omega) (Or.inl rfl) u1 ?_
                    refine V.vret (pc := 156) dX6_listen_156 rfl ?_
                    refine hq _ _ ?_ ?_ ?_ ?_
                    · first | exact updF_s | (show hi 33 2 = _; rw [show siF σ w p = w.2.2 by unfold siF; rw [if_neg (by omega)]]; exact hW.2.2.2)
                    · first | rfl | exact updF_n (by decide)
                    · rw [updF_s]
                      first
                      | (rw [hB_X (by omega)]; done)
                      | (rw [hB_m (by omega)]; rfl)
                      | (rw [hB_n (by omega) (encC_none.mp h81)]; rfl)
                      | (rw [hB_s (by omega) (bt_true h93)]; rfl)
                      | (rw [hB_y (by omega) hv hbf, hA1, Bool.or_true]; rfl)
                      | (rw [hB_y (by omega) hv hbf, hA0, show (so σ (sp' σ p) != 4) = true by simp; omega]; rfl)
                      | (rw [hB_y (by omega) hv hbf, hA0, show (so σ (sp' σ p) != 4) = false by simp; omega]; rfl)
                    · intro j hj; first | exact updF_n (by omega) | (rw [updF_n (by omega), updF_n (by omega)])
                  · skip
                    refine V.iconst (pc := 150) (z := 1) dX6_listen_150 rfl ⟨by decide, by decide⟩ ?_
                    refine V.goto (pc := 151) 155 dX6_listen_151 (by decide) ?_
                    refine V.zs (pc := 155) (len := 16) (hi' := (upR (upR hi 33 (hi 33)) 35 (updF (updF (hi 35) p 0) p 1))) p dX6_listen_155 (kS_35) (rfl) (by omega) (Or.inr rfl) u1 ?_
                    refine V.vret (pc := 156) dX6_listen_156 rfl ?_
                    refine hq _ _ ?_ ?_ ?_ ?_
                    · first | exact updF_s | (show hi 33 2 = _; rw [show siF σ w p = w.2.2 by unfold siF; rw [if_neg (by omega)]]; exact hW.2.2.2)
                    · first | rfl | exact updF_n (by decide)
                    · rw [updF_s]
                      first
                      | (rw [hB_X (by omega)]; done)
                      | (rw [hB_m (by omega)]; rfl)
                      | (rw [hB_n (by omega) (encC_none.mp h81)]; rfl)
                      | (rw [hB_s (by omega) (bt_true h93)]; rfl)
                      | (rw [hB_y (by omega) hv hbf, hA1, Bool.or_true]; rfl)
                      | (rw [hB_y (by omega) hv hbf, hA0, show (so σ (sp' σ p) != 4) = true by simp; omega]; rfl)
                      | (rw [hB_y (by omega) hv hbf, hA0, show (so σ (sp' σ p) != 4) = false by simp; omega]; rfl)
                    · intro j hj; first | exact updF_n (by omega) | (rw [updF_n (by omega), updF_n (by omega)])
    · skip
      refine V.aload_n (pc := 42) 1 dX6_listen_42 rfl ?_
      refine V.dup (pc := 43) dX6_listen_43 rfl ?_
      refine V.gi (pc := 44) 6 2 ((w.2.2 : Nat) : Int) flX6_19 dX6_listen_44 (kS_33) (by decide) (by decide) rfl (hW.2.2.2) ?_
      refine V.iconst (pc := 47) (z := 1) dX6_listen_47 rfl ⟨by decide, by decide⟩ ?_
      refine V.aload_n (pc := 48) 2 dX6_listen_48 rfl ?_
      refine V.gr (pc := 49) 0 2 13 flX6_29 dX6_listen_49 (kS_10) (by decide) (by decide) rfl (kR_10_2) ?_
      refine V.gr (pc := 52) 1 1 15 flX6_58 dX6_listen_52 (kS_13) (by decide) (by decide) rfl (kR_13_1) ?_
      refine V.iload_n (pc := 55) 3 dX6_listen_55 rfl ?_
      refine V.ia (pc := 56) (len := 16) p ((he σ p : Nat) : Int) dX6_listen_56 (kS_15) (rfl) (by omega) (hCp.2.1) ?_
      have hpw := Nat.pow_le_pow_right (show 0 < 2 by omega) hpp.2.1
      refine V.ishl (pc := 57) (((1 * 2 ^ he σ p : Nat) : Int)) dX6_listen_57 (sN (a := 1) (by omega) (by have := Nat.pow_le_pow_right (show 0 < 2 by omega) hpp.2.1; omega)) (rI_n (by omega)) ?_
      refine V.ixor (pc := 58) (((siF σ w p : Nat) : Int)) dX6_listen_58 (by have e := xN w.2.2 (1 * 2 ^ he σ p); rw [show siF σ w p = w.2.2 ^^^ (1 * 2 ^ he σ p) by unfold siF; rw [if_pos (by omega)]]; exact e) (rI_n (by omega)) ?_
      refine V.pi (pc := 59) (hi' := (upR (upR hi 33 (updF (hi 33) 2 ((siF σ w p : Nat) : Int))) 35 (updF (hi 35) p 0))) 6 2 flX6_19 dX6_listen_59 (kS_33) (by decide) (by decide) rfl rfl (us (by decide) u1) ?_
      refine V.goto (pc := 62) 156 dX6_listen_62 (by decide) ?_
      refine V.vret (pc := 156) dX6_listen_156 rfl ?_
      refine hq _ _ ?_ ?_ ?_ ?_
      · first | exact updF_s | (show hi 33 2 = _; rw [show siF σ w p = w.2.2 by unfold siF; rw [if_neg (by omega)]]; exact hW.2.2.2)
      · first | rfl | exact updF_n (by decide)
      · rw [updF_s]
        first
        | (rw [hB_X (by omega)]; done)
        | (rw [hB_m (by omega)]; rfl)
        | (rw [hB_n (by omega) (encC_none.mp h81)]; rfl)
        | (rw [hB_s (by omega) (bt_true h93)]; rfl)
        | (rw [hB_y (by omega) hv hbf, hA1, Bool.or_true]; rfl)
        | (rw [hB_y (by omega) hv hbf, hA0, show (so σ (sp' σ p) != 4) = true by simp; omega]; rfl)
        | (rw [hB_y (by omega) hv hbf, hA0, show (so σ (sp' σ p) != 4) = false by simp; omega]; rfl)
      · intro j hj; first | exact updF_n (by omega) | (rw [updF_n (by omega), updF_n (by omega)])
  · skip
    refine V.aload_n (pc := 25) 1 dX6_listen_25 rfl ?_
    refine V.gr (pc := 26) 6 1 35 flX6_15 dX6_listen_26 (kS_33) (by decide) (by decide) rfl (kR_33_1) ?_
    refine V.iload_n (pc := 29) 3 dX6_listen_29 rfl ?_
    refine V.iload_n (pc := 30) 4 dX6_listen_30 rfl ?_
    refine V.zs (pc := 31) (len := 16) (hi' := (upR (upR hi 33 (hi 33)) 35 (updF (updF (hi 35) p 0) p (b2i first)))) p dX6_listen_31 (kS_35) (rfl) (by omega) (b2i_01 first) u1 ?_
    refine V.goto (pc := 32) 156 dX6_listen_32 (by decide) ?_
    refine V.vret (pc := 156) dX6_listen_156 rfl ?_
    refine hq _ _ ?_ ?_ ?_ ?_
    · first | exact updF_s | (show hi 33 2 = _; rw [show siF σ w p = w.2.2 by unfold siF; rw [if_neg (by omega)]]; exact hW.2.2.2)
    · first | rfl | exact updF_n (by decide)
    · rw [updF_s]
      first
      | (rw [hB_X (by omega)]; done)
      | (rw [hB_m (by omega)]; rfl)
      | (rw [hB_n (by omega) (encC_none.mp h81)]; rfl)
      | (rw [hB_s (by omega) (bt_true h93)]; rfl)
      | (rw [hB_y (by omega) hv hbf, hA1, Bool.or_true]; rfl)
      | (rw [hB_y (by omega) hv hbf, hA0, show (so σ (sp' σ p) != 4) = true by simp; omega]; rfl)
      | (rw [hB_y (by omega) hv hbf, hA0, show (so σ (sp' σ p) != 4) = false by simp; omega]; rfl)
    · intro j hj; first | exact updF_n (by omega) | (rw [updF_n (by omega), updF_n (by omega)])

set_option maxRecDepth 100000 in
theorem c_X6_saidIn (hi hl : HI) (σ : SG) (hC : CR hi 10 σ) (w : WS) (p : Nat) (hp : p < nn σ) (hk : ∀ b, b < 6 → hi 34 b = encC (w.1 b)) (hh : sp' σ p = 6 ∨ (sp' σ p < 6 ∧ ∃ v, w.1 (sp' σ p) = some v)) (Q : QT) (hq : Q (some (vI (saidF σ (bg σ) w p : Nat))) KW hi hl) : Con eX6_saidIn [vR 33, vR 10, vI (p : Nat)] KW hi hl Q := by
  refine Con.ofV (by decide +kernel) (Nat.le_of_ble_eq_true rfl) ?_
  show V eX6_saidIn none KW 0 [(0, vR 33), (1, vR 10), (2, vI ((p : Nat) : Int))] [] hi hl 0 0 Q
  have hwf := hC.1
  have hpp := hwf.2.2.2.1 p hp
  have hn16 := hwf.2.2.1
  have hCp := hC.2.2.2.2.1 p hp
  refine V.aload_n (pc := 0) 1 dX6_saidIn_0 rfl ?_
  refine V.gr (pc := 1) 0 2 13 flX6_29 dX6_saidIn_1 (kS_10) (by decide) (by decide) rfl (kR_10_2) ?_
  refine V.gr (pc := 4) 1 0 14 flX6_55 dX6_saidIn_4 (kS_13) (by decide) (by decide) rfl (kR_13_0) ?_
  refine V.iload_n (pc := 7) 2 dX6_saidIn_7 rfl ?_
  refine V.ia (pc := 8) (len := 16) p ((sp' σ p : Nat) : Int) dX6_saidIn_8 (kS_14) (rfl) (by omega) (hCp.1) ?_
  refine V.istore_n (pc := 9) (i := 3) dX6_saidIn_9 rfl (by decide) (ls' := [(3, vI ((sp' σ p : Nat) : Int)), (0, vR 33), (1, vR 10), (2, vI ((p : Nat) : Int))]) rfl ?_
  refine V.iload_n (pc := 10) 0 dX6_saidIn_10 rfl ?_
  refine V.callS (pc := 11) (e1 := eX7_isBird) 1 [vI ((sp' σ p : Nat) : Int)] [] mfX7_isBird slX7_isBird mlX6_61 dX6_saidIn_11 rfl rfl (Nat.le_of_ble_eq_true rfl) ⟨by decide, by decide, by decide, by decide⟩ ?_
  refine c_X7_isBird KW hi hl ((sp' σ p : Nat) : Int) _ (fun hb => ?_) (fun hb => ?_)
  · skip
    refine V.qI (pc := 11) rfl rfl ?_
    refine V.if_eq (pc := 14) 26 dX6_saidIn_14 (by decide) (fun hc => by exact absurd hc (by decide)) (fun h14 => ?_)
    refine V.aload_n (pc := 17) 1 dX6_saidIn_17 rfl ?_
    refine V.gr (pc := 18) 6 0 34 flX6_9 dX6_saidIn_18 (kS_33) (by decide) (by decide) rfl (kR_33_0) ?_
    refine V.iload_n (pc := 21) 0 dX6_saidIn_21 rfl ?_
    obtain ⟨hlt6, v, hv⟩ : sp' σ p < 6 ∧ ∃ v, w.1 (sp' σ p) = some v := by rcases hh with q | q; { omega }; { exact q }
    refine V.ia (pc := 22) (len := 6) (sp' σ p) ((saidF σ (bg σ) w p : Nat) : Int) dX6_saidIn_22 (kS_34) (rfl) (by omega) (by rw [show saidF σ (bg σ) w p = v by unfold saidF; rw [if_neg (by omega), hv]; rfl]; rw [hk _ hlt6, hv]; rfl) ?_
    refine V.goto (pc := 23) 30 dX6_saidIn_23 (by decide) ?_
    refine V.iret (pc := 30) (z := ((saidF σ (bg σ) w p : Nat) : Int)) dX6_saidIn_30 rfl ?_
    exact hq
  · skip
    refine V.qI (pc := 11) rfl rfl ?_
    refine V.if_eq (pc := 14) 26 dX6_saidIn_14 (by decide) (fun h14 => ?_) (fun hc => by exact absurd hc (by decide))
    refine V.aload_n (pc := 26) 2 dX6_saidIn_26 rfl ?_
    have e6 : sp' σ p = 6 := by rcases hh with q | q; { exact q }; { have := q.1; omega }
    refine V.gi (pc := 27) 0 3 ((saidF σ (bg σ) w p : Nat) : Int) flX6_71 dX6_saidIn_27 (kS_10) (by decide) (by decide) rfl (by rw [show saidF σ (bg σ) w p = bg σ by unfold saidF; rw [if_pos e6]]; exact hC.2.2.2.2.2.1) ?_
    refine V.iret (pc := 30) (z := ((saidF σ (bg σ) w p : Nat) : Int)) dX6_saidIn_30 rfl ?_
    exact hq

set_option maxRecDepth 100000 in
theorem c_X6_keep (hi hl : HI) (hT : TB (hi 2) (hi 3)) (σ : SG) (hC : CR hi 10 σ) (w : WS) (hok : okW w) (p : Nat) (hp : p < nn σ) (hk : ∀ b, b < 6 → hi 34 b = encC (w.1 b)) (hh : sp' σ p = 6 ∨ (sp' σ p < 6 ∧ ∃ v, w.1 (sp' σ p) = some v)) (n : Nat) (Q : QT) (hq : Q none KW (upR hi 34 (updF (hi 34) (he σ p) ((nth (so σ (he σ p)) (saidF σ (bg σ) w p) n : Nat) : Int))) hl) : Con eX6_keep [vR 33, vR 10, vR 1, vI (p : Nat), vI (n : Nat)] KW hi hl Q := by
  refine Con.ofV (by decide +kernel) (Nat.le_of_ble_eq_true rfl) ?_
  show V eX6_keep none KW 0 [(0, vR 33), (1, vR 10), (2, vR 1), (3, vI ((p : Nat) : Int)), (4, vI ((n : Nat) : Int))] [] hi hl 0 0 Q
  refine V.hieq (hi' := (upR hi 34 (hi 34))) (by rw [upR_id]) ?_
  have hwf := hC.1
  have hpp := hwf.2.2.2.1 p hp
  have hn16 := hwf.2.2.1
  have hCp := hC.2.2.2.2.1 p hp
  have hso := hwf.1 (he σ p) (by omega)
  have hsa := said_lt (σ := σ) (p := p) hwf.2.2.2.2.1 hok
  refine V.aload_n (pc := 0) 1 dX6_keep_0 rfl ?_
  refine V.gr (pc := 1) 0 2 13 flX6_29 dX6_keep_1 (kS_10) (by decide) (by decide) rfl (kR_10_2) ?_
  refine V.gr (pc := 4) 1 1 15 flX6_58 dX6_keep_4 (kS_13) (by decide) (by decide) rfl (kR_13_1) ?_
  refine V.iload_n (pc := 7) 3 dX6_keep_7 rfl ?_
  refine V.ia (pc := 8) (len := 16) p ((he σ p : Nat) : Int) dX6_keep_8 (kS_15) (rfl) (by omega) (hCp.2.1) ?_
  refine V.istore (pc := 9) (i := 5) dX6_keep_9 (by decide) (ls' := [(5, vI ((he σ p : Nat) : Int)), (0, vR 33), (1, vR 10), (2, vR 1), (3, vI ((p : Nat) : Int)), (4, vI ((n : Nat) : Int))]) rfl ?_
  refine V.iload (pc := 11) 0 dX6_keep_11 rfl ?_
  refine V.callS (pc := 13) (e1 := eX7_isBird) 1 [vI ((he σ p : Nat) : Int)] [] mfX7_isBird slX7_isBird mlX6_61 dX6_keep_13 rfl rfl (Nat.le_of_ble_eq_true rfl) ⟨by decide, by decide, by decide, by decide⟩ ?_
  refine c_X7_isBird KW (upR hi 34 (hi 34)) hl ((he σ p : Nat) : Int) _ (fun hb => ?_) (fun hb => absurd hb (by omega))
  · skip
    refine V.qI (pc := 13) rfl rfl ?_
    refine V.if_ne (pc := 16) 20 dX6_keep_16 (by decide) (fun h16 => ?_) (fun hc => by exact absurd hc (by decide))
    refine V.aload_n (pc := 20) 1 dX6_keep_20 rfl ?_
    refine V.gr (pc := 21) 6 0 34 flX6_9 dX6_keep_21 (kS_33) (by decide) (by decide) rfl (kR_33_0) ?_
    refine V.iload (pc := 24) 0 dX6_keep_24 rfl ?_
    refine V.aload_n (pc := 26) 3 dX6_keep_26 rfl ?_
    refine V.aload_n (pc := 27) 2 dX6_keep_27 rfl ?_
    refine V.gr (pc := 28) 0 0 11 flX6_68 dX6_keep_28 (kS_10) (by decide) (by decide) rfl (kR_10_0) ?_
    refine V.iload (pc := 31) 0 dX6_keep_31 rfl ?_
    refine V.ia (pc := 33) (len := 6) (he σ p) ((so σ (he σ p) : Nat) : Int) dX6_keep_33 (kS_11) (rfl) (by omega) (hC.2.1 _ (by omega)) ?_
    refine V.aload_n (pc := 34) 1 dX6_keep_34 rfl ?_
    refine V.aload_n (pc := 35) 2 dX6_keep_35 rfl ?_
    refine V.iload_n (pc := 36) 4 dX6_keep_36 rfl ?_
    refine V.callV (pc := 37) (e1 := eX6_saidIn) (o := 33) (c := 6) 2 [vR 10, vI ((p : Nat) : Int)] [vI ((so σ (he σ p) : Nat) : Int), vR 1, vI ((he σ p : Nat) : Int), vR 34] mfX6_saidIn slX6_saidIn mlX6_74 dX6_keep_37 (kS_33) (by decide) rfl rfl rfl (Nat.le_of_ble_eq_true rfl) ⟨by decide, by decide, by decide, by decide⟩ ?_
    refine c_X6_saidIn (upR hi 34 (hi 34)) hl σ hC w p (by omega) hk hh _ ?_
    refine V.qI (pc := 37) rfl rfl ?_
    refine V.iload (pc := 40) 5 dX6_keep_40 rfl ?_
    refine V.callV (pc := 42) (e1 := eX4_numbered) (o := 1) (c := 4) 3 [vI ((so σ (he σ p) : Nat) : Int), vI ((saidF σ (bg σ) w p : Nat) : Int), vI ((n : Nat) : Int)] [vI ((he σ p : Nat) : Int), vR 34] mfX4_numbered slX4_numbered mlX6_78 dX6_keep_42 (kS_1) (by decide) rfl rfl rfl (Nat.le_of_ble_eq_true rfl) ⟨by decide, by decide, by decide, by decide⟩ ?_
    refine c_X4_numbered (upR hi 34 (hi 34)) hl (hT) (so σ (he σ p)) (saidF σ (bg σ) w p) n (by omega) (by omega) _ ?_
    refine V.qI (pc := 42) rfl rfl ?_
    refine V.is (pc := 45) (len := 6) (hi' := (upR hi 34 (updF (hi 34) (he σ p) ((nth (so σ (he σ p)) (saidF σ (bg σ) w p) n : Nat) : Int)))) (he σ p) dX6_keep_45 (kS_34) (rfl) (by omega) u1 ?_
    refine V.vret (pc := 46) dX6_keep_46 rfl ?_
    exact hq

set_option maxRecDepth 100000 in
theorem c_X6_draw (hi hl : HI) (hT : TB (hi 2) (hi 3)) (σ : SG) (hC : CR hi 10 σ) (w : WS) (hok : okW w) (p : Nat) (hp : p < nn σ) (hk : ∀ b, b < 6 → hi 34 b = encC (w.1 b)) (hh : sp' σ p = 6 ∨ (sp' σ p < 6 ∧ ∃ v, w.1 (sp' σ p) = some v)) (x : Nat) (hx : x < 65537) (hs : hi 33 3 = (x : Nat)) (Q : QT) (hq : ∀ f : Nat → Int, f 2 = hi 33 2 → f 3 = (((drawF σ w p x).2 : Nat) : Int) → Q (some (vI ((drawF σ w p x).1 : Nat))) KW (upR hi 33 f) hl) : Con eX6_draw [vR 33, vR 10, vR 1, vI (p : Nat)] KW hi hl Q := by
  refine Con.ofV (by decide +kernel) (Nat.le_of_ble_eq_true rfl) ?_
  show V eX6_draw none KW 0 [(0, vR 33), (1, vR 10), (2, vR 1), (3, vI ((p : Nat) : Int))] [] hi hl 0 0 Q
  refine V.hieq (hi' := (upR hi 33 (hi 33))) (by rw [upR_id]) ?_
  have hwf := hC.1
  have hpp := hwf.2.2.2.1 p hp
  have hn16 := hwf.2.2.1
  have hCp := hC.2.2.2.2.1 p hp
  have hso := hwf.1 (he σ p) (by omega)
  have hsa := said_lt (σ := σ) (p := p) hwf.2.2.2.2.1 hok
  have hra := hwf.2.2.2.2.2
  have hn1 := nx_lt x
  have hn2 := nx_lt (nx x)
  refine V.aload_n (pc := 0) 1 dX6_draw_0 rfl ?_
  refine V.gr (pc := 1) 0 2 13 flX6_29 dX6_draw_1 (kS_10) (by decide) (by decide) rfl (kR_10_2) ?_
  refine V.gr (pc := 4) 1 1 15 flX6_58 dX6_draw_4 (kS_13) (by decide) (by decide) rfl (kR_13_1) ?_
  refine V.iload_n (pc := 7) 3 dX6_draw_7 rfl ?_
  refine V.ia (pc := 8) (len := 16) p ((he σ p : Nat) : Int) dX6_draw_8 (kS_15) (rfl) (by omega) (hCp.2.1) ?_
  refine V.istore (pc := 9) (i := 4) dX6_draw_9 (by decide) (ls' := [(4, vI ((he σ p : Nat) : Int)), (0, vR 33), (1, vR 10), (2, vR 1), (3, vI ((p : Nat) : Int))]) rfl ?_
  refine V.iload (pc := 11) 0 dX6_draw_11 rfl ?_
  refine V.callS (pc := 13) (e1 := eX7_isBird) 1 [vI ((he σ p : Nat) : Int)] [] mfX7_isBird slX7_isBird mlX6_61 dX6_draw_13 rfl rfl (Nat.le_of_ble_eq_true rfl) ⟨by decide, by decide, by decide, by decide⟩ ?_
  refine c_X7_isBird KW (upR hi 33 (hi 33)) hl ((he σ p : Nat) : Int) _ (fun hb => ?_) (fun hb => absurd hb (by omega))
  · skip
    refine V.qI (pc := 13) rfl rfl ?_
    refine V.if_eq (pc := 16) 29 dX6_draw_16 (by decide) (fun hc => by exact absurd hc (by decide)) (fun h16 => ?_)
    refine V.aload_n (pc := 19) 2 dX6_draw_19 rfl ?_
    refine V.gr (pc := 20) 0 0 11 flX6_68 dX6_draw_20 (kS_10) (by decide) (by decide) rfl (kR_10_0) ?_
    refine V.iload (pc := 23) 0 dX6_draw_23 rfl ?_
    refine V.ia (pc := 25) (len := 6) (he σ p) ((so σ (he σ p) : Nat) : Int) dX6_draw_25 (kS_11) (rfl) (by omega) (hC.2.1 _ (by omega)) ?_
    refine V.goto (pc := 26) 30 dX6_draw_26 (by decide) ?_
    refine V.istore (pc := 30) (i := 5) dX6_draw_30 (by decide) (ls' := [(5, vI ((so σ (he σ p) : Nat) : Int)), (4, vI ((he σ p : Nat) : Int)), (0, vR 33), (1, vR 10), (2, vR 1), (3, vI ((p : Nat) : Int))]) rfl ?_
    refine V.iload (pc := 32) 0 dX6_draw_32 rfl ?_
    refine V.iconst (pc := 34) (z := 1) dX6_draw_34 rfl ⟨by decide, by decide⟩ ?_
    refine V.icmp_lt (pc := 35) 44 dX6_draw_35 (by decide) (fun h35 => ?_) (fun h35 => ?_)
    · skip
      refine V.iconst (pc := 44) (z := 0) dX6_draw_44 rfl ⟨by decide, by decide⟩ ?_
      refine V.iret (pc := 45) (z := 0) dX6_draw_45 rfl ?_
      rw [show drawF σ w p x = (0, x) by unfold drawF; rw [if_neg (by omega)]] at hq
      exact hq _ rfl hs
    · skip
      refine V.iload (pc := 38) 0 dX6_draw_38 rfl ?_
      refine V.iconst (pc := 40) (z := 3) dX6_draw_40 rfl ⟨by decide, by decide⟩ ?_
      refine V.icmp_le (pc := 41) 46 dX6_draw_41 (by decide) (fun h41 => ?_) (fun h41 => ?_)
      · skip
        refine V.aload_n (pc := 46) 2 dX6_draw_46 rfl ?_
        refine V.callV (pc := 47) (e1 := eX6_nextSeed) (o := 33) (c := 6) 0 [] [] mfX6_nextSeed slX6_nextSeed mlX6_84 dX6_draw_47 (kS_33) (by decide) rfl rfl rfl (Nat.le_of_ble_eq_true rfl) ⟨by decide, by decide, by decide, by decide⟩ ?_
        refine c_X6_nextSeed (upR hi 33 (hi 33)) hl (x) (hx) (hs) _ ?_
        refine V.qV (pc := 47) rfl rfl ?_
        refine V.hieq (hi' := (upR hi 33 (updF (hi 33) 3 ((nx (x) : Nat) : Int)))) r1 ?_
        refine V.aload_n (pc := 50) 3 dX6_draw_50 rfl ?_
        refine V.gi (pc := 51) 0 4 ((ra σ : Nat) : Int) flX6_87 dX6_draw_51 (kS_10) (by decide) (by decide) rfl (hC.2.2.2.2.2.2) ?_
        refine V.iconst (pc := 54) (z := 1) dX6_draw_54 rfl ⟨by decide, by decide⟩ ?_
        refine V.icmp_lt (pc := 55) 70 dX6_draw_55 (by decide) (fun hc => by exfalso; omega) (fun h55 => ?_)
        refine V.aload_n (pc := 58) 2 dX6_draw_58 rfl ?_
        refine V.gi (pc := 59) 6 3 ((nx (x) : Nat) : Int) flX6_23 dX6_draw_59 (kS_33) (by decide) (by decide) rfl (rfl) ?_
        refine V.aload_n (pc := 62) 3 dX6_draw_62 rfl ?_
        refine V.gi (pc := 63) 0 4 ((ra σ : Nat) : Int) flX6_87 dX6_draw_63 (kS_10) (by decide) (by decide) rfl (hC.2.2.2.2.2.2) ?_
        have hml1 := Nat.mod_le (nx x) (ra σ)
        refine V.irem (pc := 66) ((((nx (x)) % (ra σ) : Nat) : Int)) dX6_draw_66 (by omega) (mN (a := (nx (x))) (b := (ra σ)) (by omega) (by omega) (by omega)) (rI_n (by omega)) ?_
        refine V.if_eq (pc := 67) 72 dX6_draw_67 (by decide) (fun h67 => ?_) (fun h67 => ?_)
        · skip
          refine V.aload_n (pc := 72) 2 dX6_draw_72 rfl ?_
          refine V.callV (pc := 73) (e1 := eX6_nextSeed) (o := 33) (c := 6) 0 [] [] mfX6_nextSeed slX6_nextSeed mlX6_84 dX6_draw_73 (kS_33) (by decide) rfl rfl rfl (Nat.le_of_ble_eq_true rfl) ⟨by decide, by decide, by decide, by decide⟩ ?_
          refine c_X6_nextSeed (upR hi 33 (updF (hi 33) 3 ((nx (x) : Nat) : Int))) hl (nx x) (hn1) ((show updF (hi 33) 3 ((nx x : Nat) : Int) 3 = _ from updF_s)) _ ?_
          refine V.qV (pc := 73) rfl rfl ?_
          refine V.hieq (hi' := (upR hi 33 (updF (updF (hi 33) 3 ((nx (x) : Nat) : Int)) 3 ((nx (nx x) : Nat) : Int)))) r1 ?_
          refine V.aload_n (pc := 76) 4 dX6_draw_76 rfl ?_
          refine V.iload (pc := 77) 0 dX6_draw_77 rfl ?_
          refine V.aload_n (pc := 79) 2 dX6_draw_79 rfl ?_
          refine V.aload_n (pc := 80) 3 dX6_draw_80 rfl ?_
          refine V.iload_n (pc := 81) 5 dX6_draw_81 rfl ?_
          refine V.callV (pc := 82) (e1 := eX6_saidIn) (o := 33) (c := 6) 2 [vR 10, vI ((p : Nat) : Int)] [vI ((so σ (he σ p) : Nat) : Int), vR 1] mfX6_saidIn slX6_saidIn mlX6_74 dX6_draw_82 (kS_33) (by decide) rfl rfl rfl (Nat.le_of_ble_eq_true rfl) ⟨by decide, by decide, by decide, by decide⟩ ?_
          refine c_X6_saidIn (upR hi 33 (updF (updF (hi 33) 3 ((nx (x) : Nat) : Int)) 3 ((nx (nx x) : Nat) : Int))) hl σ hC w p (by omega) hk hh _ ?_
          refine V.qI (pc := 82) rfl rfl ?_
          refine V.callV (pc := 85) (e1 := eX4_count) (o := 1) (c := 4) 2 [vI ((so σ (he σ p) : Nat) : Int), vI ((saidF σ (bg σ) w p : Nat) : Int)] [] mfX4_count slX4_count mlX6_90 dX6_draw_85 (kS_1) (by decide) rfl rfl rfl (Nat.le_of_ble_eq_true rfl) ⟨by decide, by decide, by decide, by decide⟩ ?_
          refine c_X4_count (upR hi 33 (updF (updF (hi 33) 3 ((nx (x) : Nat) : Int)) 3 ((nx (nx x) : Nat) : Int))) hl (hT) (so σ (he σ p)) (saidF σ (bg σ) w p) (by omega) (by omega) _ ?_
          refine V.qI (pc := 85) rfl rfl ?_
          refine V.istore (pc := 88) (i := 6) dX6_draw_88 (by decide) (ls' := [(6, vI ((slN (so σ (he σ p)) (saidF σ (bg σ) w p) : Nat) : Int)), (5, vI ((so σ (he σ p) : Nat) : Int)), (4, vI ((he σ p : Nat) : Int)), (0, vR 33), (1, vR 10), (2, vR 1), (3, vI ((p : Nat) : Int))]) rfl ?_
          refine V.iload (pc := 90) 0 dX6_draw_90 rfl ?_
          refine V.iconst (pc := 92) (z := 1) dX6_draw_92 rfl ⟨by decide, by decide⟩ ?_
          have h15 := slN_15 hso hsa
          refine V.icmp_ge (pc := 93) 100 dX6_draw_93 (by decide) (fun h93 => ?_) (fun h93 => ?_)
          · skip
            refine V.iconst (pc := 100) (z := 1) dX6_draw_100 rfl ⟨by decide, by decide⟩ ?_
            refine V.aload_n (pc := 101) 3 dX6_draw_101 rfl ?_
            refine V.gi (pc := 102) 6 3 ((nx (nx x) : Nat) : Int) flX6_23 dX6_draw_102 (kS_33) (by decide) (by decide) rfl (rfl) ?_
            refine V.iload (pc := 105) 0 dX6_draw_105 rfl ?_
            have hml2 := Nat.mod_le (nx (nx x)) (slN (so σ (he σ p)) (saidF σ (bg σ) w p))
            refine V.irem (pc := 107) ((((nx (nx x)) % (slN (so σ (he σ p)) (saidF σ (bg σ) w p)) : Nat) : Int)) dX6_draw_107 (by omega) (mN (a := (nx (nx x))) (b := (slN (so σ (he σ p)) (saidF σ (bg σ) w p))) (by omega) (by omega) (by omega)) (rI_n (by omega)) ?_
            refine V.iadd (pc := 108) (((1 + nx (nx x) % slN (so σ (he σ p)) (saidF σ (bg σ) w p) : Nat) : Int)) dX6_draw_108 (addN (a := 1) (by have := Nat.mod_le (nx (nx x)) (slN (so σ (he σ p)) (saidF σ (bg σ) w p)); omega)) ?_
            refine V.iret (pc := 109) (z := ((1 + nx (nx x) % slN (so σ (he σ p)) (saidF σ (bg σ) w p) : Nat) : Int)) dX6_draw_109 rfl ?_
            rw [show drawF σ w p x = (1 + nx (nx x) % slN (so σ (he σ p)) (saidF σ (bg σ) w p), nx (nx x)) by unfold drawF; rw [if_pos (by omega), if_neg (by omega), if_neg (by omega)]] at hq
            exact hq _ rfl updF_s
          · skip
            refine V.iconst (pc := 96) (z := 0) dX6_draw_96 rfl ⟨by decide, by decide⟩ ?_
            refine V.goto (pc := 97) 109 dX6_draw_97 (by decide) ?_
            refine V.iret (pc := 109) (z := 0) dX6_draw_109 rfl ?_
            rw [show drawF σ w p x = (0, nx (nx x)) by unfold drawF; rw [if_pos (by omega), if_neg (by omega), if_pos (by omega)]] at hq
            exact hq _ rfl updF_s
        · skip
          refine V.iconst (pc := 70) (z := 0) dX6_draw_70 rfl ⟨by decide, by decide⟩ ?_
          refine V.iret (pc := 71) (z := 0) dX6_draw_71 rfl ?_
          rw [show drawF σ w p x = (0, nx x) by unfold drawF; rw [if_pos (by omega), if_pos (by omega)]] at hq
          exact hq _ rfl updF_s
      · skip
        refine V.iconst (pc := 44) (z := 0) dX6_draw_44 rfl ⟨by decide, by decide⟩ ?_
        refine V.iret (pc := 45) (z := 0) dX6_draw_45 rfl ?_
        rw [show drawF σ w p x = (0, x) by unfold drawF; rw [if_neg (by omega)]] at hq
        exact hq _ rfl hs

set_option maxRecDepth 100000 in
theorem c_X6_throughDays (hi hl : HI) (hT : TB (hi 2) (hi 3)) (σ : SG) (hC : CR hi 10 σ) (Q : QT) (hq : ∀ g33 g34 g35 : Nat → Int, WR g33 g34 g35 (wD σ) (nn σ) → Q none KW (upR (upR (upR hi 33 g33) 34 g34) 35 g35) hl) : Con eX6_throughDays [vR 33, vR 10, vR 1] KW hi hl Q := by
  refine Con.ofV (by decide +kernel) (Nat.le_of_ble_eq_true rfl) ?_
  show V eX6_throughDays none KW 0 [(0, vR 33), (1, vR 10), (2, vR 1)] [] hi hl 0 0 Q
  refine V.hieq (hi' := (upR (upR (upR hi 33 (hi 33)) 34 (hi 34)) 35 (hi 35))) (by rw [upR_id, upR_id, upR_id]) ?_
  have hwf := hC.1
  have hn16 := hwf.2.2.1
  have hbg := hwf.2.2.2.2.1
  refine V.aload_n (pc := 0) 0 dX6_throughDays_0 rfl ?_
  refine V.callV (pc := 1) (e1 := eX6_forgetAll) (o := 33) (c := 6) 0 [] [] mfX6_forgetAll slX6_forgetAll mlX6_26 dX6_throughDays_1 (kS_33) (by decide) rfl rfl rfl (Nat.le_of_ble_eq_true rfl) ⟨by decide, by decide, by decide, by decide⟩ ?_
  refine c_X6_forgetAll (upR (upR (upR hi 33 (hi 33)) 34 (hi 34)) 35 (hi 35)) hl _ (fun fF hFo => ?_)
  refine V.qV (pc := 1) rfl rfl ?_
  refine V.hieq (hi' := (upR (upR (upR hi 33 (hi 33)) 34 fF) 35 (hi 35))) (rs (by decide) r1) ?_
  refine V.aload_n (pc := 4) 0 dX6_throughDays_4 rfl ?_
  refine V.iconst (pc := 5) (z := 0) dX6_throughDays_5 rfl ⟨by decide, by decide⟩ ?_
  refine V.pi (pc := 6) (hi' := (upR (upR (upR hi 33 (updF (hi 33) 2 0)) 34 fF) 35 (hi 35))) 6 2 flX6_19 dX6_throughDays_6 (kS_33) (by decide) (by decide) rfl rfl (us (by decide) (us (by decide) u1)) ?_
  refine V.aload_n (pc := 9) 1 dX6_throughDays_9 rfl ?_
  refine V.gr (pc := 10) 0 2 13 flX6_29 dX6_throughDays_10 (kS_10) (by decide) (by decide) rfl (kR_10_2) ?_
  refine V.astore_n (pc := 13) (i := 3) dX6_throughDays_13 rfl (by decide) (ls' := [(3, vR 13), (0, vR 33), (1, vR 10), (2, vR 1)]) rfl ?_
  refine V.iconst (pc := 14) (z := 0) dX6_throughDays_14 rfl ⟨by decide, by decide⟩ ?_
  refine V.istore (pc := 15) (i := 4) dX6_throughDays_15 (by decide) (ls' := [(4, vI 0), (3, vR 13), (0, vR 33), (1, vR 10), (2, vR 1)]) rfl ?_
  have lp17 : ∀ (fu17 : Nat) (k : Nat) (g33 : Nat → Int) (g34 : Nat → Int) (g35 : Nat → Int), (k ≤ nn σ) → (WR g33 g34 g35 (wrun σ (bg σ) true (di σ) wZ k) k) → nn σ - k < fu17 → V eX6_throughDays none KW 17 [(0, vR 33), (1, vR 10), (2, vR 1), (3, vR 13), (4, vI ((k : Nat) : Int))] [] (upR (upR (upR hi 33 g33) 34 g34) 35 g35) hl 0 0 Q := by
    intro fu17
    induction fu17 with
    | zero => intro k g33 g34 g35 hk hW hm17; exact absurd hm17 (Nat.not_lt_zero _)
    | succ fu17 ih17 =>
      intro k g33 g34 g35 hk hW hm17
      refine V.iload (pc := 17) 4 dX6_throughDays_17 rfl ?_
      refine V.aload_n (pc := 19) 3 dX6_throughDays_19 rfl ?_
      refine V.gi (pc := 20) 1 3 ((nn σ : Nat) : Int) flX6_35 dX6_throughDays_20 (kS_13) (by decide) (by decide) rfl (hC.2.2.2.1) ?_
      refine V.icmp_ge (pc := 23) 72 dX6_throughDays_23 (by decide) (fun h23 => ?_) (fun h23 => ?_)
      · skip
        refine V.vret (pc := 72) dX6_throughDays_72 rfl ?_
        have e : k = nn σ := by omega
        subst e
        exact hq _ _ _ hW
      · skip
        refine V.iload (pc := 26) 4 dX6_throughDays_26 rfl ?_
        refine V.bipush (pc := 28) (z := 16) dX6_throughDays_28 (by decide +kernel) ⟨by decide, by decide⟩ ?_
        refine V.icmp_ge (pc := 30) 72 dX6_throughDays_30 (by decide) (fun hc => by exfalso; omega) (fun h30 => ?_)
        refine V.aload_n (pc := 33) 0 dX6_throughDays_33 rfl ?_
        refine V.aload_n (pc := 34) 1 dX6_throughDays_34 rfl ?_
        refine V.iload (pc := 35) 4 dX6_throughDays_35 rfl ?_
        refine V.iconst (pc := 37) (z := 1) dX6_throughDays_37 rfl ⟨by decide, by decide⟩ ?_
        refine V.callV (pc := 38) (e1 := eX6_listen) (o := 33) (c := 6) 3 [vR 10, vI ((k : Nat) : Int), vI 1] [] mfX6_listen slX6_listen mlX6_40 dX6_throughDays_38 (kS_33) (by decide) rfl rfl rfl (Nat.le_of_ble_eq_true rfl) ⟨by decide, by decide, by decide, by decide⟩ ?_
        refine c_X6_listen (upR (upR (upR hi 33 g33) 34 g34) 35 g35) hl hT σ hC (wrun σ (bg σ) true (di σ) wZ k) k (by omega) hW true _ (fun f33 f35 hL1 hL2 hL3 hL4 => ?_)
        refine V.qV (pc := 38) rfl rfl ?_
        refine V.hieq (hi' := (upR (upR (upR hi 33 f33) 34 g34) 35 f35)) ((upR_c (rs (by decide) (rs (by decide) r1))).trans r1) ?_
        refine V.aload_n (pc := 41) 0 dX6_throughDays_41 rfl ?_
        refine V.gr (pc := 42) 6 1 35 flX6_15 dX6_throughDays_42 (kS_33) (by decide) (by decide) rfl (kR_33_1) ?_
        refine V.iload (pc := 45) 4 dX6_throughDays_45 rfl ?_
        refine V.za (pc := 47) (len := 16) k (b2i (hearsB σ true (wrun σ (bg σ) true (di σ) wZ k) k)) dX6_throughDays_47 (kS_35) (rfl) (by omega) (hL3) ?_
        refine V.if_eq (pc := 48) 66 dX6_throughDays_48 (by decide) (fun h48 => ?_) (fun h48 => ?_)
        · have hhd : (hearsB σ true (wrun σ (bg σ) true (di σ) wZ k) k) = false := b2i_F h48
          refine V.iinc (pc := 66) (r := ((k + 1 : Nat) : Int)) 4 dX6_throughDays_66 rfl (w32_of (by omega) (by omega) (by omega)) (by decide) (ls' := [(4, vI ((k + 1 : Nat) : Int)), (0, vR 33), (1, vR 10), (2, vR 1), (3, vR 13)]) rfl ?_
          refine V.goto (pc := 69) 17 dX6_throughDays_69 (by decide) ?_
          refine V.locs [1, 2, 3, 4, 0] (ls' := [(0, vR 33), (1, vR 10), (2, vR 1), (3, vR 13), (4, vI ((k + 1 : Nat) : Int))]) rfl ?_
          exact ih17 (k + 1) f33 g34 f35 (by omega) (WR_no hwf (by omega) hbg hW hL1 hL3 hL4 hhd) (by omega)
        · have hhd : (hearsB σ true (wrun σ (bg σ) true (di σ) wZ k) k) = true := b2i_T h48
          have hhr := hB_heard (hwf.2.2.2.1 k (by omega)).1 hhd
          refine V.aload_n (pc := 51) 0 dX6_throughDays_51 rfl ?_
          refine V.aload_n (pc := 52) 1 dX6_throughDays_52 rfl ?_
          refine V.aload_n (pc := 53) 2 dX6_throughDays_53 rfl ?_
          refine V.iload (pc := 54) 4 dX6_throughDays_54 rfl ?_
          refine V.aload_n (pc := 56) 3 dX6_throughDays_56 rfl ?_
          refine V.gr (pc := 57) 1 2 16 flX6_44 dX6_throughDays_57 (kS_13) (by decide) (by decide) rfl (kR_13_2) ?_
          refine V.iload (pc := 60) 4 dX6_throughDays_60 rfl ?_
          refine V.ia (pc := 62) (len := 16) k ((di σ k : Nat) : Int) dX6_throughDays_62 (kS_16) (rfl) (by omega) ((hC.2.2.2.2.1 k (by omega)).2.2) ?_
          refine V.callV (pc := 63) (e1 := eX6_keep) (o := 33) (c := 6) 4 [vR 10, vR 1, vI ((k : Nat) : Int), vI ((di σ k : Nat) : Int)] [] mfX6_keep slX6_keep mlX6_47 dX6_throughDays_63 (kS_33) (by decide) rfl rfl rfl (Nat.le_of_ble_eq_true rfl) ⟨by decide, by decide, by decide, by decide⟩ ?_
          refine c_X6_keep (upR (upR (upR hi 33 f33) 34 g34) 35 f35) hl hT σ hC (wrun σ (bg σ) true (di σ) wZ k) hW.1 k (by omega) hW.2.1 hhr (di σ k) _ ?_
          refine V.qV (pc := 63) rfl rfl ?_
          refine V.hieq (hi' := (upR (upR (upR hi 33 f33) 34 (updF g34 (he σ k) ((nth (so σ (he σ k)) (saidF σ (bg σ) (wrun σ (bg σ) true (di σ) wZ k) k) (di σ k) : Nat) : Int))) 35 f35)) (rs (by decide) r1) ?_
          refine V.iinc (pc := 66) (r := ((k + 1 : Nat) : Int)) 4 dX6_throughDays_66 rfl (w32_of (by omega) (by omega) (by omega)) (by decide) (ls' := [(4, vI ((k + 1 : Nat) : Int)), (0, vR 33), (1, vR 10), (2, vR 1), (3, vR 13)]) rfl ?_
          refine V.goto (pc := 69) 17 dX6_throughDays_69 (by decide) ?_
          refine V.locs [1, 2, 3, 4, 0] (ls' := [(0, vR 33), (1, vR 10), (2, vR 1), (3, vR 13), (4, vI ((k + 1 : Nat) : Int))]) rfl ?_
          exact ih17 (k + 1) f33 (updF g34 (he σ k) ((nth (so σ (he σ k)) (saidF σ (bg σ) (wrun σ (bg σ) true (di σ) wZ k) k) (di σ k) : Nat) : Int)) f35 (by omega) (WR_yes hwf (by omega) hbg hW hL1 hL3 hL4 hhd) (by omega)
  refine V.locs [2, 3, 4, 1, 0] (ls' := [(0, vR 33), (1, vR 10), (2, vR 1), (3, vR 13), (4, vI 0)]) rfl ?_
  exact lp17 _ 0 (updF (hi 33) 2 0) fF (hi 35) (by omega) (⟨okW_Z, hFo, fun j hj => absurd hj (Nat.not_lt_zero j), updF_s⟩) (Nat.lt_succ_self _)

set_option maxRecDepth 100000 in
theorem c_X6_beginYears (hi hl : HI) (x : Nat) (Q : QT) (hq : ∀ g33 g34 : Nat → Int, g33 3 = (x : Nat) → (∀ b, b < 6 → g34 b = -1) → Q none KW (upR (upR hi 33 g33) 34 g34) hl) : Con eX6_beginYears [vR 33, vR 10, vI (x : Nat)] KW hi hl Q := by
  refine Con.ofV (by decide +kernel) (Nat.le_of_ble_eq_true rfl) ?_
  show V eX6_beginYears none KW 0 [(0, vR 33), (1, vR 10), (2, vI ((x : Nat) : Int))] [] hi hl 0 0 Q
  refine V.hieq (hi' := (upR (upR hi 33 (hi 33)) 34 (hi 34))) (by rw [upR_id, upR_id]) ?_
  refine V.aload_n (pc := 0) 0 dX6_beginYears_0 rfl ?_
  refine V.callV (pc := 1) (e1 := eX6_forgetAll) (o := 33) (c := 6) 0 [] [] mfX6_forgetAll slX6_forgetAll mlX6_26 dX6_beginYears_1 (kS_33) (by decide) rfl rfl rfl (Nat.le_of_ble_eq_true rfl) ⟨by decide, by decide, by decide, by decide⟩ ?_
  refine c_X6_forgetAll (upR (upR hi 33 (hi 33)) 34 (hi 34)) hl _ (fun fF hFo => ?_)
  refine V.qV (pc := 1) rfl rfl ?_
  refine V.hieq (hi' := (upR (upR hi 33 (hi 33)) 34 fF)) r1 ?_
  refine V.aload_n (pc := 4) 0 dX6_beginYears_4 rfl ?_
  refine V.iload_n (pc := 5) 2 dX6_beginYears_5 rfl ?_
  refine V.pi (pc := 6) (hi' := (upR (upR hi 33 (updF (hi 33) 3 ((x : Nat) : Int))) 34 fF)) 6 3 flX6_23 dX6_beginYears_6 (kS_33) (by decide) (by decide) rfl rfl (us (by decide) u1) ?_
  refine V.vret (pc := 9) dX6_beginYears_9 rfl ?_
  exact hq _ _ updF_s hFo

set_option maxRecDepth 100000 in
theorem c_X6_throughDrawnDay (hi hl : HI) (hT : TB (hi 2) (hi 3)) (σ : SG) (hC : CR hi 10 σ) (first : Bool) (y : WS × Nat) (hok : okW y.1) (hy : y.2 < 65537) (hy3 : hi 33 3 = (y.2 : Nat)) (hk : ∀ b, b < 6 → hi 34 b = encC (y.1.1 b)) (Q : QT) (hq : ∀ g33 g34 g35 : Nat → Int, g33 3 = ((yday σ first y (nn σ)).2 : Nat) → (∀ b, b < 6 → g34 b = encC ((yday σ first y (nn σ)).1.1 b)) → Q none KW (upR (upR (upR hi 33 g33) 34 g34) 35 g35) hl) : Con eX6_throughDrawnDay [vR 33, vR 10, vR 1, vI (b2i first)] KW hi hl Q := by
  refine Con.ofV (by decide +kernel) (Nat.le_of_ble_eq_true rfl) ?_
  show V eX6_throughDrawnDay none KW 0 [(0, vR 33), (1, vR 10), (2, vR 1), (3, vI (b2i first))] [] hi hl 0 0 Q
  refine V.hieq (hi' := (upR (upR (upR hi 33 (hi 33)) 34 (hi 34)) 35 (hi 35))) (by rw [upR_id, upR_id, upR_id]) ?_
  have hwf := hC.1
  have hn16 := hwf.2.2.1
  have hbg := hwf.2.2.2.2.1
  refine V.aload_n (pc := 0) 0 dX6_throughDrawnDay_0 rfl ?_
  refine V.iconst (pc := 1) (z := 0) dX6_throughDrawnDay_1 rfl ⟨by decide, by decide⟩ ?_
  refine V.pi (pc := 2) (hi' := (upR (upR (upR hi 33 (updF (hi 33) 2 0)) 34 (hi 34)) 35 (hi 35))) 6 2 flX6_19 dX6_throughDrawnDay_2 (kS_33) (by decide) (by decide) rfl rfl (us (by decide) (us (by decide) u1)) ?_
  refine V.iconst (pc := 5) (z := 0) dX6_throughDrawnDay_5 rfl ⟨by decide, by decide⟩ ?_
  refine V.istore (pc := 6) (i := 4) dX6_throughDrawnDay_6 (by decide) (ls' := [(4, vI 0), (0, vR 33), (1, vR 10), (2, vR 1), (3, vI (b2i first))]) rfl ?_
  have lp8 : ∀ (fu8 : Nat) (k : Nat) (g33 : Nat → Int) (g34 : Nat → Int) (g35 : Nat → Int), (k ≤ nn σ) → (WR g33 g34 g35 (yday σ first y k).1 k) → (g33 3 = ((yday σ first y k).2 : Nat)) → nn σ - k < fu8 → V eX6_throughDrawnDay none KW 8 [(0, vR 33), (1, vR 10), (2, vR 1), (3, vI (b2i first)), (4, vI ((k : Nat) : Int))] [] (upR (upR (upR hi 33 g33) 34 g34) 35 g35) hl 0 0 Q := by
    intro fu8
    induction fu8 with
    | zero => intro k g33 g34 g35 hkn hW hS hm8; exact absurd hm8 (Nat.not_lt_zero _)
    | succ fu8 ih8 =>
      intro k g33 g34 g35 hkn hW hS hm8
      refine V.iload (pc := 8) 4 dX6_throughDrawnDay_8 rfl ?_
      refine V.aload_n (pc := 10) 1 dX6_throughDrawnDay_10 rfl ?_
      refine V.gr (pc := 11) 0 2 13 flX6_29 dX6_throughDrawnDay_11 (kS_10) (by decide) (by decide) rfl (kR_10_2) ?_
      refine V.gi (pc := 14) 1 3 ((nn σ : Nat) : Int) flX6_35 dX6_throughDrawnDay_14 (kS_13) (by decide) (by decide) rfl (hC.2.2.2.1) ?_
      refine V.icmp_ge (pc := 17) 67 dX6_throughDrawnDay_17 (by decide) (fun h17 => ?_) (fun h17 => ?_)
      · skip
        refine V.vret (pc := 67) dX6_throughDrawnDay_67 rfl ?_
        have e : k = nn σ := by omega
        subst e
        exact hq _ _ _ hS hW.2.1
      · skip
        refine V.iload (pc := 20) 4 dX6_throughDrawnDay_20 rfl ?_
        refine V.bipush (pc := 22) (z := 16) dX6_throughDrawnDay_22 (by decide +kernel) ⟨by decide, by decide⟩ ?_
        refine V.icmp_ge (pc := 24) 67 dX6_throughDrawnDay_24 (by decide) (fun hc => by exfalso; omega) (fun h24 => ?_)
        refine V.aload_n (pc := 27) 0 dX6_throughDrawnDay_27 rfl ?_
        refine V.aload_n (pc := 28) 1 dX6_throughDrawnDay_28 rfl ?_
        refine V.iload (pc := 29) 4 dX6_throughDrawnDay_29 rfl ?_
        refine V.iload_n (pc := 31) 3 dX6_throughDrawnDay_31 rfl ?_
        refine V.callV (pc := 32) (e1 := eX6_listen) (o := 33) (c := 6) 3 [vR 10, vI ((k : Nat) : Int), vI (b2i first)] [] mfX6_listen slX6_listen mlX6_40 dX6_throughDrawnDay_32 (kS_33) (by decide) rfl rfl rfl (Nat.le_of_ble_eq_true rfl) ⟨by decide, by decide, by decide, by decide⟩ ?_
        refine c_X6_listen (upR (upR (upR hi 33 g33) 34 g34) 35 g35) hl hT σ hC (yday σ first y k).1 k (by omega) hW first _ (fun f33 f35 hL1 hL2 hL3 hL4 => ?_)
        refine V.qV (pc := 32) rfl rfl ?_
        refine V.hieq (hi' := (upR (upR (upR hi 33 f33) 34 g34) 35 f35)) ((upR_c (rs (by decide) (rs (by decide) r1))).trans r1) ?_
        refine V.aload_n (pc := 35) 0 dX6_throughDrawnDay_35 rfl ?_
        refine V.gr (pc := 36) 6 1 35 flX6_15 dX6_throughDrawnDay_36 (kS_33) (by decide) (by decide) rfl (kR_33_1) ?_
        refine V.iload (pc := 39) 4 dX6_throughDrawnDay_39 rfl ?_
        refine V.za (pc := 41) (len := 16) k (b2i (hearsB σ first (yday σ first y k).1 k)) dX6_throughDrawnDay_41 (kS_35) (rfl) (by omega) (hL3) ?_
        refine V.if_eq (pc := 42) 61 dX6_throughDrawnDay_42 (by decide) (fun h42 => ?_) (fun h42 => ?_)
        · have hhd : (hearsB σ first (yday σ first y k).1 k) = false := b2i_F h42
          refine V.iinc (pc := 61) (r := ((k + 1 : Nat) : Int)) 4 dX6_throughDrawnDay_61 rfl (w32_of (by omega) (by omega) (by omega)) (by decide) (ls' := [(4, vI ((k + 1 : Nat) : Int)), (0, vR 33), (1, vR 10), (2, vR 1), (3, vI (b2i first))]) rfl ?_
          refine V.goto (pc := 64) 8 dX6_throughDrawnDay_64 (by decide) ?_
          refine V.locs [1, 2, 3, 4, 0] (ls' := [(0, vR 33), (1, vR 10), (2, vR 1), (3, vI (b2i first)), (4, vI ((k + 1 : Nat) : Int))]) rfl ?_
          exact ih8 (k + 1) f33 g34 f35 (by omega) (by show WR _ _ _ (ystep σ first (yday σ first y k) k).1 (k + 1); rw [yst_n hhd]; exact WR_no hwf (by omega) hbg hW (hL1) hL3 hL4 hhd) (by show _ = ((ystep σ first (yday σ first y k) k).2 : Int); rw [yst_n hhd]; exact hL2.trans hS) (by omega)
        · have hhd : (hearsB σ first (yday σ first y k).1 k) = true := b2i_T h42
          have hhr := hB_heard (hwf.2.2.2.1 k (by omega)).1 hhd
          refine V.aload_n (pc := 45) 0 dX6_throughDrawnDay_45 rfl ?_
          refine V.aload_n (pc := 46) 1 dX6_throughDrawnDay_46 rfl ?_
          refine V.aload_n (pc := 47) 2 dX6_throughDrawnDay_47 rfl ?_
          refine V.iload (pc := 48) 4 dX6_throughDrawnDay_48 rfl ?_
          refine V.aload_n (pc := 50) 0 dX6_throughDrawnDay_50 rfl ?_
          refine V.aload_n (pc := 51) 1 dX6_throughDrawnDay_51 rfl ?_
          refine V.aload_n (pc := 52) 2 dX6_throughDrawnDay_52 rfl ?_
          refine V.iload (pc := 53) 4 dX6_throughDrawnDay_53 rfl ?_
          refine V.callV (pc := 55) (e1 := eX6_draw) (o := 33) (c := 6) 3 [vR 10, vR 1, vI ((k : Nat) : Int)] [vI ((k : Nat) : Int), vR 1, vR 10, vR 33] mfX6_draw slX6_draw mlX6_51 dX6_throughDrawnDay_55 (kS_33) (by decide) rfl rfl rfl (Nat.le_of_ble_eq_true rfl) ⟨by decide, by decide, by decide, by decide⟩ ?_
          refine c_X6_draw (upR (upR (upR hi 33 f33) 34 g34) 35 f35) hl hT σ hC (yday σ first y k).1 hW.1 k (by omega) hW.2.1 hhr (yday σ first y k).2 (yday_lt hy k) (hL2.trans hS) _ (fun fdr hD2 hD3 => ?_)
          refine V.qI (pc := 55) rfl rfl ?_
          refine V.hieq (hi' := (upR (upR (upR hi 33 fdr) 34 g34) 35 f35)) (rs (by decide) (rs (by decide) r1)) ?_
          refine V.callV (pc := 58) (e1 := eX6_keep) (o := 33) (c := 6) 4 [vR 10, vR 1, vI ((k : Nat) : Int), vI (((drawF σ (yday σ first y k).1 k (yday σ first y k).2).1 : Nat) : Int)] [] mfX6_keep slX6_keep mlX6_47 dX6_throughDrawnDay_58 (kS_33) (by decide) rfl rfl rfl (Nat.le_of_ble_eq_true rfl) ⟨by decide, by decide, by decide, by decide⟩ ?_
          refine c_X6_keep (upR (upR (upR hi 33 fdr) 34 g34) 35 f35) hl hT σ hC (yday σ first y k).1 hW.1 k (by omega) hW.2.1 hhr ((drawF σ (yday σ first y k).1 k (yday σ first y k).2).1) _ ?_
          refine V.qV (pc := 58) rfl rfl ?_
          refine V.hieq (hi' := (upR (upR (upR hi 33 fdr) 34 (updF g34 (he σ k) ((nth (so σ (he σ k)) (saidF σ (bg σ) (yday σ first y k).1 k) ((drawF σ (yday σ first y k).1 k (yday σ first y k).2).1) : Nat) : Int))) 35 f35)) (rs (by decide) r1) ?_
          refine V.iinc (pc := 61) (r := ((k + 1 : Nat) : Int)) 4 dX6_throughDrawnDay_61 rfl (w32_of (by omega) (by omega) (by omega)) (by decide) (ls' := [(4, vI ((k + 1 : Nat) : Int)), (0, vR 33), (1, vR 10), (2, vR 1), (3, vI (b2i first))]) rfl ?_
          refine V.goto (pc := 64) 8 dX6_throughDrawnDay_64 (by decide) ?_
          refine V.locs [1, 2, 3, 4, 0] (ls' := [(0, vR 33), (1, vR 10), (2, vR 1), (3, vI (b2i first)), (4, vI ((k + 1 : Nat) : Int))]) rfl ?_
          exact ih8 (k + 1) fdr (updF g34 (he σ k) ((nth (so σ (he σ k)) (saidF σ (bg σ) (yday σ first y k).1 k) ((drawF σ (yday σ first y k).1 k (yday σ first y k).2).1) : Nat) : Int)) f35 (by omega) (by show WR _ _ _ (ystep σ first (yday σ first y k) k).1 (k + 1); rw [yst_y hhd]; exact WR_yes hwf (by omega) hbg hW (hD2.trans hL1) hL3 hL4 hhd) (by show _ = ((ystep σ first (yday σ first y k) k).2 : Int); rw [yst_y hhd]; exact hD3) (by omega)
  refine V.locs [1, 2, 3, 4, 0] (ls' := [(0, vR 33), (1, vR 10), (2, vR 1), (3, vI (b2i first)), (4, vI 0)]) rfl ?_
  exact lp8 _ 0 (updF (hi 33) 2 0) (hi 34) (hi 35) (by omega) (⟨⟨hok.1, by show 0 < 64; omega⟩, hk, fun j hj => absurd hj (Nat.not_lt_zero j), updF_s⟩) (by rw [updF_n (by decide)]; exact hy3) (Nat.lt_succ_self _)

