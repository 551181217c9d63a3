set_option maxRecDepth 100000 in
theorem c_X3_speakerOf (K : KK) (hi hl : HI) (c : Int) (hc : 33 ≤ c ∧ c ≤ 126) (Q : QT) (hq : Q (some (vI (spOf c))) K hi hl) : Con eX3_speakerOf [vI c] K hi hl Q := by
  refine Con.ofV (by decide +kernel) (Nat.le_of_ble_eq_true rfl) ?_
  show V eX3_speakerOf none K 0 [(0, vI c)] [] hi hl 0 0 Q
  refine V.iload_n (pc := 0) 0 dX3_speakerOf_0 rfl ?_
  refine V.bipush (pc := 1) (z := 88) dX3_speakerOf_1 (by decide +kernel) ⟨by decide, by decide⟩ ?_
  refine V.icmp_ne (pc := 3) 9 dX3_speakerOf_3 (by decide) (fun h3 => ?_) (fun h3 => ?_)
  · skip
    refine V.iload_n (pc := 9) 0 dX3_speakerOf_9 rfl ?_
    refine V.bipush (pc := 10) (z := 109) dX3_speakerOf_10 (by decide +kernel) ⟨by decide, by decide⟩ ?_
    refine V.icmp_ne (pc := 12) 18 dX3_speakerOf_12 (by decide) (fun h12 => ?_) (fun h12 => ?_)
    · skip
      refine V.iload_n (pc := 18) 0 dX3_speakerOf_18 rfl ?_
      refine V.bipush (pc := 19) (z := 65) dX3_speakerOf_19 (by decide +kernel) ⟨by decide, by decide⟩ ?_
      refine V.isub (pc := 21) ((c - 65)) dX3_speakerOf_21 (w32_of (by omega) (by omega) (by omega)) ?_
      refine V.callS (pc := 22) (e1 := eX7_isBird) 1 [vI (c - 65)] [] mfX7_isBird slX7_isBird mlX3_32 dX3_speakerOf_22 rfl rfl (Nat.le_of_ble_eq_true rfl) ⟨by decide, by decide, by decide, by decide⟩ ?_
      refine c_X7_isBird K hi hl (c - 65) _ (fun hb => ?_) (fun hb => ?_)
      · skip
        refine V.qI (pc := 22) rfl rfl ?_
        refine V.if_eq (pc := 25) 35 dX3_speakerOf_25 (by decide) (fun hc => by exact absurd hc (by decide)) (fun h25 => ?_)
        refine V.iload_n (pc := 28) 0 dX3_speakerOf_28 rfl ?_
        refine V.bipush (pc := 29) (z := 65) dX3_speakerOf_29 (by decide +kernel) ⟨by decide, by decide⟩ ?_
        refine V.isub (pc := 31) ((c - 65)) dX3_speakerOf_31 (w32_of (by omega) (by omega) (by omega)) ?_
        refine V.goto (pc := 32) 36 dX3_speakerOf_32 (by decide) ?_
        refine V.iret (pc := 36) (z := (c - 65)) dX3_speakerOf_36 rfl ?_
        rw [show spOf c = c - 65 by unfold spOf; rw [if_neg (by omega), if_neg (by omega), if_pos (by omega)]] at hq
        exact hq
      · skip
        refine V.qI (pc := 22) rfl rfl ?_
        refine V.if_eq (pc := 25) 35 dX3_speakerOf_25 (by decide) (fun h25 => ?_) (fun hc => by exact absurd hc (by decide))
        refine V.iconst (pc := 35) (z := (-1)) dX3_speakerOf_35 rfl ⟨by decide, by decide⟩ ?_
        refine V.iret (pc := 36) (z := (-1)) dX3_speakerOf_36 rfl ?_
        rw [show spOf c = -1 by unfold spOf; rw [if_neg (by omega), if_neg (by omega), if_neg (by omega)]] at hq
        exact hq
    · skip
      refine V.bipush (pc := 15) (z := 7) dX3_speakerOf_15 (by decide +kernel) ⟨by decide, by decide⟩ ?_
      refine V.iret (pc := 17) (z := 7) dX3_speakerOf_17 rfl ?_
      rw [show spOf c = 7 by unfold spOf; rw [if_neg (by omega), if_pos (by omega)]] at hq
      exact hq
  · skip
    refine V.bipush (pc := 6) (z := 6) dX3_speakerOf_6 (by decide +kernel) ⟨by decide, by decide⟩ ?_
    refine V.iret (pc := 8) (z := 6) dX3_speakerOf_8 rfl ?_
    rw [show spOf c = 6 by unfold spOf; rw [if_pos (by omega)]] at hq
    exact hq

set_option maxRecDepth 100000 in
theorem c_X1_add (hi hl : HI) (n : Nat) (hn : n < 16) (hP : hi 6 3 = (n : Nat)) (a b : Int) (Q : QT) (hq : Q none KW (upR (upR (upR (upR hi 6 (updF (hi 6) 3 ((n + 1 : Nat) : Int))) 9 (updF (hi 9) n 0)) 8 (updF (hi 8) n b)) 7 (updF (hi 7) n a)) hl) : Con eX1_add [vR 6, vI a, vI b] KW hi hl Q := by
  refine Con.ofV (by decide +kernel) (Nat.le_of_ble_eq_true rfl) ?_
  show V eX1_add none KW 0 [(0, vR 6), (1, vI a), (2, vI b)] [] hi hl 0 0 Q
  refine V.hieq (hi' := (upR (upR (upR (upR hi 6 (hi 6)) 9 (hi 9)) 8 (hi 8)) 7 (hi 7))) (by rw [upR_id, upR_id, upR_id, upR_id]) ?_
  refine V.aload_n (pc := 0) 0 dX1_add_0 rfl ?_
  refine V.gi (pc := 1) 1 3 ((n : Nat) : Int) flX1_21 dX1_add_1 (kS_6) (by decide) (by decide) rfl (hP) ?_
  refine V.bipush (pc := 4) (z := 16) dX1_add_4 (by decide +kernel) ⟨by decide, by decide⟩ ?_
  refine V.icmp_lt (pc := 6) 10 dX1_add_6 (by decide) (fun h6 => ?_) (fun hc => by exfalso; omega)
  refine V.aload_n (pc := 10) 0 dX1_add_10 rfl ?_
  refine V.gr (pc := 11) 1 0 7 flX1_9 dX1_add_11 (kS_6) (by decide) (by decide) rfl (kR_6_0) ?_
  refine V.aload_n (pc := 14) 0 dX1_add_14 rfl ?_
  refine V.gi (pc := 15) 1 3 ((n : Nat) : Int) flX1_21 dX1_add_15 (kS_6) (by decide) (by decide) rfl (hP) ?_
  refine V.iload_n (pc := 18) 1 dX1_add_18 rfl ?_
  refine V.is (pc := 19) (len := 16) (hi' := (upR (upR (upR (upR hi 6 (hi 6)) 9 (hi 9)) 8 (hi 8)) 7 (updF (hi 7) n a))) n dX1_add_19 (kS_7) (rfl) (by omega) u1 ?_
  refine V.aload_n (pc := 20) 0 dX1_add_20 rfl ?_
  refine V.gr (pc := 21) 1 1 8 flX1_15 dX1_add_21 (kS_6) (by decide) (by decide) rfl (kR_6_1) ?_
  refine V.aload_n (pc := 24) 0 dX1_add_24 rfl ?_
  refine V.gi (pc := 25) 1 3 ((n : Nat) : Int) flX1_21 dX1_add_25 (kS_6) (by decide) (by decide) rfl (hP) ?_
  refine V.iload_n (pc := 28) 2 dX1_add_28 rfl ?_
  refine V.is (pc := 29) (len := 16) (hi' := (upR (upR (upR (upR hi 6 (hi 6)) 9 (hi 9)) 8 (updF (hi 8) n b)) 7 (updF (hi 7) n a))) n dX1_add_29 (kS_8) (rfl) (by omega) (us (by decide) u1) ?_
  refine V.aload_n (pc := 30) 0 dX1_add_30 rfl ?_
  refine V.gr (pc := 31) 1 2 9 flX1_18 dX1_add_31 (kS_6) (by decide) (by decide) rfl (kR_6_2) ?_
  refine V.aload_n (pc := 34) 0 dX1_add_34 rfl ?_
  refine V.gi (pc := 35) 1 3 ((n : Nat) : Int) flX1_21 dX1_add_35 (kS_6) (by decide) (by decide) rfl (hP) ?_
  refine V.iconst (pc := 38) (z := 0) dX1_add_38 rfl ⟨by decide, by decide⟩ ?_
  refine V.is (pc := 39) (len := 16) (hi' := (upR (upR (upR (upR hi 6 (hi 6)) 9 (updF (hi 9) n 0)) 8 (updF (hi 8) n b)) 7 (updF (hi 7) n a))) n dX1_add_39 (kS_9) (rfl) (by omega) (us (by decide) (us (by decide) u1)) ?_
  refine V.aload_n (pc := 40) 0 dX1_add_40 rfl ?_
  refine V.dup (pc := 41) dX1_add_41 rfl ?_
  refine V.gi (pc := 42) 1 3 ((n : Nat) : Int) flX1_21 dX1_add_42 (kS_6) (by decide) (by decide) rfl (hP) ?_
  refine V.iconst (pc := 45) (z := 1) dX1_add_45 rfl ⟨by decide, by decide⟩ ?_
  refine V.iadd (pc := 46) ((((n + 1) : Nat) : Int)) dX1_add_46 (addN (a := n) (b := 1) (by omega)) ?_
  refine V.pi (pc := 47) (hi' := (upR (upR (upR (upR hi 6 (updF (hi 6) 3 (((n + 1) : Nat) : Int))) 9 (updF (hi 9) n 0)) 8 (updF (hi 8) n b)) 7 (updF (hi 7) n a))) 1 3 flX1_21 dX1_add_47 (kS_6) (by decide) (by decide) rfl rfl (us (by decide) (us (by decide) (us (by decide) u1))) ?_
  refine V.vret (pc := 50) dX1_add_50 rfl ?_
  exact hq

set_option maxRecDepth 100000 in
theorem c_X1_setLastDigit (hi hl : HI) (n : Nat) (hn : 1 ≤ n ∧ n ≤ 16) (hP : hi 6 3 = (n : Nat)) (a : Int) (Q : QT) (hq : Q none KW (upR hi 9 (updF (hi 9) (n - 1) a)) hl) : Con eX1_setLastDigit [vR 6, vI a] KW hi hl Q := by
  refine Con.ofV (by decide +kernel) (Nat.le_of_ble_eq_true rfl) ?_
  show V eX1_setLastDigit none KW 0 [(0, vR 6), (1, vI a)] [] hi hl 0 0 Q
  refine V.hieq (hi' := (upR hi 9 (hi 9))) (by rw [upR_id]) ?_
  refine V.aload_n (pc := 0) 0 dX1_setLastDigit_0 rfl ?_
  refine V.gi (pc := 1) 1 3 ((n : Nat) : Int) flX1_21 dX1_setLastDigit_1 (kS_6) (by decide) (by decide) rfl (hP) ?_
  refine V.iconst (pc := 4) (z := 1) dX1_setLastDigit_4 rfl ⟨by decide, by decide⟩ ?_
  refine V.icmp_lt (pc := 5) 29 dX1_setLastDigit_5 (by decide) (fun hc => by exfalso; omega) (fun h5 => ?_)
  refine V.aload_n (pc := 8) 0 dX1_setLastDigit_8 rfl ?_
  refine V.gi (pc := 9) 1 3 ((n : Nat) : Int) flX1_21 dX1_setLastDigit_9 (kS_6) (by decide) (by decide) rfl (hP) ?_
  refine V.bipush (pc := 12) (z := 16) dX1_setLastDigit_12 (by decide +kernel) ⟨by decide, by decide⟩ ?_
  refine V.icmp_gt (pc := 14) 29 dX1_setLastDigit_14 (by decide) (fun hc => by exfalso; omega) (fun h14 => ?_)
  refine V.aload_n (pc := 17) 0 dX1_setLastDigit_17 rfl ?_
  refine V.gr (pc := 18) 1 2 9 flX1_18 dX1_setLastDigit_18 (kS_6) (by decide) (by decide) rfl (kR_6_2) ?_
  refine V.aload_n (pc := 21) 0 dX1_setLastDigit_21 rfl ?_
  refine V.gi (pc := 22) 1 3 ((n : Nat) : Int) flX1_21 dX1_setLastDigit_22 (kS_6) (by decide) (by decide) rfl (hP) ?_
  refine V.iconst (pc := 25) (z := 1) dX1_setLastDigit_25 rfl ⟨by decide, by decide⟩ ?_
  refine V.isub (pc := 26) (((n - 1 : Nat) : Int)) dX1_setLastDigit_26 (subN (a := n) (b := 1) (by omega) (by omega)) ?_
  refine V.iload_n (pc := 27) 1 dX1_setLastDigit_27 rfl ?_
  refine V.is (pc := 28) (len := 16) (hi' := (upR hi 9 (updF (hi 9) (n - 1) a))) (n - 1) dX1_setLastDigit_28 (kS_9) (rfl) (by omega) u1 ?_
  refine V.vret (pc := 29) dX1_setLastDigit_29 rfl ?_
  exact hq

set_option maxRecDepth 100000 in
theorem c_X3_readDays (hi hl : HI) (m : Nat) (hm : hi 4 1 = (m : Nat)) (hm2 : m ≤ 48) (hg : ∀ i, i < m → 33 ≤ hi 5 i ∧ hi 5 i ≤ 126) (Q : QT) (hF : dayF (hi 5) m ≠ -6 → ∀ P A B D, Q (some (vI (dayF (hi 5) m))) KW (upR (upR (upR (upR hi 6 P) 7 A) 8 B) 9 D) hl) (hT : dayF (hi 5) m = -6 → ∀ P A B D, AgP P A B D (dF (hi 5) m).2 → Q (some (vI (-6))) KW (upR (upR (upR (upR hi 6 P) 7 A) 8 B) 9 D) hl) : Con eX3_readDays [vR 4, vR 6] KW hi hl Q := by
  refine Con.ofV (by decide +kernel) (Nat.le_of_ble_eq_true rfl) ?_
  show V eX3_readDays none KW 0 [(0, vR 4), (1, vR 6)] [] hi hl 0 0 Q
  refine V.hieq (hi' := (upR (upR (upR (upR hi 6 (hi 6)) 7 (hi 7)) 8 (hi 8)) 9 (hi 9))) (by rw [upR_id, upR_id, upR_id, upR_id]) ?_
  refine V.aload_n (pc := 0) 1 dX3_readDays_0 rfl ?_
  refine V.iconst (pc := 1) (z := 0) dX3_readDays_1 rfl ⟨by decide, by decide⟩ ?_
  refine V.pi (pc := 2) (hi' := (upR (upR (upR (upR hi 6 (updF (hi 6) 3 0)) 7 (hi 7)) 8 (hi 8)) 9 (hi 9))) 1 3 flX3_27 dX3_readDays_2 (kS_6) (by decide) (by decide) rfl rfl (us (by decide) (us (by decide) (us (by decide) u1))) ?_
  refine V.iconst (pc := 5) (z := 0) dX3_readDays_5 rfl ⟨by decide, by decide⟩ ?_
  refine V.istore_n (pc := 6) (i := 2) dX3_readDays_6 rfl (by decide) (ls' := [(2, vI 0), (0, vR 4), (1, vR 6)]) rfl ?_
  refine V.bipush (pc := 7) (z := 6) dX3_readDays_7 (by decide +kernel) ⟨by decide, by decide⟩ ?_
  refine V.istore_n (pc := 9) (i := 3) dX3_readDays_9 rfl (by decide) (ls' := [(3, vI 6), (2, vI 0), (0, vR 4), (1, vR 6)]) rfl ?_
  refine V.iconst (pc := 10) (z := 0) dX3_readDays_10 rfl ⟨by decide, by decide⟩ ?_
  refine V.istore (pc := 11) (i := 4) dX3_readDays_11 (by decide) (ls' := [(4, vI 0), (3, vI 6), (2, vI 0), (0, vR 4), (1, vR 6)]) rfl ?_
  have lp13 : ∀ (fu13 : Nat) (k : Nat) (s : PSt) (P : Nat → Int) (A : Nat → Int) (B : Nat → Int) (D : Nat → Int), (k ≤ m) → (dF (hi 5) k = (-6, s)) → (AgP P A B D s) → m - k < fu13 → V eX3_readDays none KW 13 [(0, vR 4), (1, vR 6), (2, vI ((s.1 : Nat) : Int)), (3, vI s.2.1), (4, vI ((k : Nat) : Int))] [] (upR (upR (upR (upR hi 6 P) 7 A) 8 B) 9 D) hl 0 0 Q := by
    intro fu13
    induction fu13 with
    | zero => intro k s P A B D hk hE hA hm13; exact absurd hm13 (Nat.not_lt_zero _)
    | succ fu13 ih13 =>
      intro k s P A B D hk hE hA hm13
      obtain ⟨a1, a2, a3, a4, a5, a6, a7⟩ := dF_n hE
      have hP := hA.1
      refine V.iload (pc := 13) 4 dX3_readDays_13 rfl ?_
      refine V.aload_n (pc := 15) 0 dX3_readDays_15 rfl ?_
      refine V.gi (pc := 16) 3 1 ((m : Nat) : Int) flX3_15 dX3_readDays_16 (kS_4) (by decide) (by decide) rfl (hm) ?_
      refine V.icmp_ge (pc := 19) 167 dX3_readDays_19 (by decide) (fun h19 => ?_) (fun h19 => ?_)
      · skip
        refine V.iload_n (pc := 167) 2 dX3_readDays_167 rfl ?_
        refine V.iconst (pc := 168) (z := 1) dX3_readDays_168 rfl ⟨by decide, by decide⟩ ?_
        refine V.icmp_eq (pc := 169) 177 dX3_readDays_169 (by decide) (fun h169 => ?_) (fun h169 => ?_)
        · skip
          refine V.aload_n (pc := 177) 0 dX3_readDays_177 rfl ?_
          refine V.gi (pc := 178) 3 1 ((m : Nat) : Int) flX3_15 dX3_readDays_178 (kS_4) (by decide) (by decide) rfl (hm) ?_
          refine V.goto (pc := 181) 186 dX3_readDays_181 (by decide) ?_
          refine V.iret (pc := 186) (z := ((m : Nat) : Int)) dX3_readDays_186 rfl ?_
          have ek : k = m := by omega
          rw [ek] at hE
          rw [dayF_mid hE (by omega)] at hF
          exact hF (by omega) P A B D
        · skip
          refine V.iload_n (pc := 172) 2 dX3_readDays_172 rfl ?_
          refine V.iconst (pc := 173) (z := 2) dX3_readDays_173 rfl ⟨by decide, by decide⟩ ?_
          refine V.icmp_ne (pc := 174) 184 dX3_readDays_174 (by decide) (fun h174 => ?_) (fun h174 => ?_)
          · skip
            refine V.bipush (pc := 184) (z := (-6)) dX3_readDays_184 (by decide +kernel) ⟨by decide, by decide⟩ ?_
            refine V.iret (pc := 186) (z := (-6)) dX3_readDays_186 rfl ?_
            have ek : k = m := by omega
            rw [ek] at hE
            rw [hE] at hT
            exact hT (dayF_end hE (by omega)) P A B D hA
          · skip
            refine V.aload_n (pc := 177) 0 dX3_readDays_177 rfl ?_
            refine V.gi (pc := 178) 3 1 ((m : Nat) : Int) flX3_15 dX3_readDays_178 (kS_4) (by decide) (by decide) rfl (hm) ?_
            refine V.goto (pc := 181) 186 dX3_readDays_181 (by decide) ?_
            refine V.iret (pc := 186) (z := ((m : Nat) : Int)) dX3_readDays_186 rfl ?_
            have ek : k = m := by omega
            rw [ek] at hE
            rw [dayF_mid hE (by omega)] at hF
            exact hF (by omega) P A B D
      · skip
        refine V.iload (pc := 22) 4 dX3_readDays_22 rfl ?_
        refine V.bipush (pc := 24) (z := 48) dX3_readDays_24 (by decide +kernel) ⟨by decide, by decide⟩ ?_
        refine V.icmp_ge (pc := 26) 167 dX3_readDays_26 (by decide) (fun hc => by exfalso; omega) (fun h26 => ?_)
        refine V.aload_n (pc := 29) 0 dX3_readDays_29 rfl ?_
        refine V.gr (pc := 30) 3 0 5 flX3_9 dX3_readDays_30 (kS_4) (by decide) (by decide) rfl (kR_4_0) ?_
        refine V.iload (pc := 33) 4 dX3_readDays_33 rfl ?_
        refine V.ia (pc := 35) (len := 48) k (hi 5 k) dX3_readDays_35 (kS_5) (rfl) (by omega) (rfl) ?_
        have hgk := hg k (by omega)
        refine V.istore (pc := 36) (i := 5) dX3_readDays_36 (by decide) (ls' := [(5, vI (hi 5 k)), (0, vR 4), (1, vR 6), (2, vI ((s.1 : Nat) : Int)), (3, vI s.2.1), (4, vI ((k : Nat) : Int))]) rfl ?_
        refine V.iload_n (pc := 38) 3 dX3_readDays_38 rfl ?_
        refine V.iconst (pc := 39) (z := 1) dX3_readDays_39 rfl ⟨by decide, by decide⟩ ?_
        refine V.icmp_eq (pc := 40) 48 dX3_readDays_40 (by decide) (fun h40 => ?_) (fun h40 => ?_)
        · skip
          refine V.iload (pc := 48) 0 dX3_readDays_48 rfl ?_
          refine V.bipush (pc := 50) (z := 65) dX3_readDays_50 (by decide +kernel) ⟨by decide, by decide⟩ ?_
          refine V.isub (pc := 52) (((hi 5 k) - 65)) dX3_readDays_52 (w32_of (by omega) (by omega) (by omega)) ?_
          refine V.istore (pc := 53) (i := 6) dX3_readDays_53 (by decide) (ls' := [(6, vI ((hi 5 k) - 65)), (5, vI (hi 5 k)), (0, vR 4), (1, vR 6), (2, vI ((s.1 : Nat) : Int)), (3, vI s.2.1), (4, vI ((k : Nat) : Int))]) rfl ?_
          refine V.iload (pc := 55) 0 dX3_readDays_55 rfl ?_
          refine V.callS (pc := 57) (e1 := eX7_isBird) 1 [vI ((hi 5 k) - 65)] [] mfX7_isBird slX7_isBird mlX3_32 dX3_readDays_57 rfl rfl (Nat.le_of_ble_eq_true rfl) ⟨by decide, by decide, by decide, by decide⟩ ?_
          refine c_X7_isBird KW (upR (upR (upR (upR hi 6 P) 7 A) 8 B) 9 D) hl ((hi 5 k) - 65) _ (fun hb => ?_) (fun hb => ?_)
          · skip
            refine V.qI (pc := 57) rfl rfl ?_
            refine V.if_eq (pc := 60) 69 dX3_readDays_60 (by decide) (fun hc => by exact absurd hc (by decide)) (fun h60 => ?_)
            refine V.iload (pc := 63) 0 dX3_readDays_63 rfl ?_
            refine V.iload_n (pc := 65) 5 dX3_readDays_65 rfl ?_
            refine V.icmp_ne (pc := 66) 72 dX3_readDays_66 (by decide) (fun h66 => ?_) (fun h66 => ?_)
            · skip
              refine V.aload_n (pc := 72) 3 dX3_readDays_72 rfl ?_
              refine V.iload_n (pc := 73) 5 dX3_readDays_73 rfl ?_
              refine V.iload (pc := 74) 0 dX3_readDays_74 rfl ?_
              refine V.callV (pc := 76) (e1 := eX1_add) (o := 6) (c := 1) 2 [vI s.2.1, vI ((hi 5 k) - 65)] [] mfX1_add slX1_add mlX3_36 dX3_readDays_76 (kS_6) (by decide) rfl rfl rfl (Nat.le_of_ble_eq_true rfl) ⟨by decide, by decide, by decide, by decide⟩ ?_
              refine c_X1_add (upR (upR (upR (upR hi 6 P) 7 A) 8 B) 9 D) hl s.2.2.1 (by have := a3 (by omega); omega) (hP) (s.2.1) ((hi 5 k) - 65) _ ?_
              refine V.qV (pc := 76) rfl rfl ?_
              refine V.hieq (hi' := (upR (upR (upR (upR hi 6 (updF P 3 ((s.2.2.1 + 1 : Nat) : Int))) 7 (updF A (s.2.2.1) (s.2.1))) 8 (updF B (s.2.2.1) ((hi 5 k) - 65))) 9 (updF D (s.2.2.1) 0))) ((upR_c ((upR_c ((upR_c (rs (by decide) (rs (by decide) (rs (by decide) r1)))).trans r1)).trans (rs (by decide) r1))).trans (rs (by decide) (rs (by decide) r1))) ?_
              refine V.iload_n (pc := 79) 4 dX3_readDays_79 rfl ?_
              refine V.iconst (pc := 80) (z := 1) dX3_readDays_80 rfl ⟨by decide, by decide⟩ ?_
              refine V.icmp_ne (pc := 81) 88 dX3_readDays_81 (by decide) (fun hc => by exfalso; omega) (fun h81 => ?_)
              have hE2 : dF (hi 5) (k + 1) = (-6, pHear (hi 5 k) s) := dF_ok hE (by unfold pstep; rw [if_pos (by omega), if_pos (by omega)])
              refine V.iconst (pc := 84) (z := 3) dX3_readDays_84 rfl ⟨by decide, by decide⟩ ?_
              refine V.top (v' := vI (((pHear (hi 5 k) s).1 : Nat) : Int)) (by rw [show (pHear (hi 5 k) s).1 = 3 by unfold pHear; rw [if_pos (by omega)]]; rfl) ?_
              refine V.goto (pc := 85) 89 dX3_readDays_85 (by decide) ?_
              refine V.istore_n (pc := 89) (i := 2) dX3_readDays_89 rfl (by decide) (ls' := [(2, vI (((pHear (hi 5 k) s).1 : Nat) : Int)), (6, vI ((hi 5 k) - 65)), (5, vI (hi 5 k)), (0, vR 4), (1, vR 6), (3, vI s.2.1), (4, vI ((k : Nat) : Int))]) rfl ?_
              refine V.goto (pc := 90) 161 dX3_readDays_90 (by decide) ?_
              refine V.iinc (pc := 161) (r := ((k + 1 : Nat) : Int)) 6 dX3_readDays_161 rfl (w32_of (by omega) (by omega) (by omega)) (by decide) (ls' := [(4, vI ((k + 1 : Nat) : Int)), (2, vI (((pHear (hi 5 k) s).1 : Nat) : Int)), (6, vI ((hi 5 k) - 65)), (5, vI (hi 5 k)), (0, vR 4), (1, vR 6), (3, vI s.2.1)]) rfl ?_
              refine V.goto (pc := 164) 13 dX3_readDays_164 (by decide) ?_
              refine V.locs [4, 5, 1, 6, 0] (ls' := [(0, vR 4), (1, vR 6), (2, vI (((pHear (hi 5 k) s).1 : Nat) : Int)), (3, vI s.2.1), (4, vI ((k + 1 : Nat) : Int))]) rfl ?_
              exact ih13 (k + 1) (pHear (hi 5 k) s) (updF P 3 ((s.2.2.1 + 1 : Nat) : Int)) (updF A (s.2.2.1) (s.2.1)) (updF B (s.2.2.1) ((hi 5 k) - 65)) (updF D (s.2.2.1) 0) (by omega) (hE2) (AgP_hear (hi 5 k) hA) (by omega)
            · skip
              refine V.iload (pc := 69) 6 dX3_readDays_69 rfl ?_
              refine V.iret (pc := 71) (z := ((k : Nat) : Int)) dX3_readDays_71 rfl ?_
              have e := dayF_bad hE (by unfold pstep; rw [if_pos (by omega), if_neg (by omega)]) (show k < m by omega)
              rw [e] at hF
              exact hF (by omega) P A B D
          · skip
            refine V.qI (pc := 57) rfl rfl ?_
            refine V.if_eq (pc := 60) 69 dX3_readDays_60 (by decide) (fun h60 => ?_) (fun hc => by exact absurd hc (by decide))
            refine V.iload (pc := 69) 6 dX3_readDays_69 rfl ?_
            refine V.iret (pc := 71) (z := ((k : Nat) : Int)) dX3_readDays_71 rfl ?_
            have e := dayF_bad hE (by unfold pstep; rw [if_pos (by omega), if_neg (by omega)]) (show k < m by omega)
            rw [e] at hF
            exact hF (by omega) P A B D
        · skip
          refine V.iload_n (pc := 43) 3 dX3_readDays_43 rfl ?_
          refine V.iconst (pc := 44) (z := 2) dX3_readDays_44 rfl ⟨by decide, by decide⟩ ?_
          refine V.icmp_ne (pc := 45) 93 dX3_readDays_45 (by decide) (fun h45 => ?_) (fun h45 => ?_)
          · skip
            refine V.iload_n (pc := 93) 3 dX3_readDays_93 rfl ?_
            refine V.iconst (pc := 94) (z := 3) dX3_readDays_94 rfl ⟨by decide, by decide⟩ ?_
            refine V.icmp_ne (pc := 95) 126 dX3_readDays_95 (by decide) (fun h95 => ?_) (fun h95 => ?_)
            · skip
              refine V.iload (pc := 126) 0 dX3_readDays_126 rfl ?_
              refine V.callS (pc := 128) (e1 := eX3_speakerOf) 1 [vI (hi 5 k)] [] mfX3_speakerOf slX3_speakerOf mlX3_44 dX3_readDays_128 rfl rfl (Nat.le_of_ble_eq_true rfl) ⟨by decide, by decide, by decide, by decide⟩ ?_
              refine c_X3_speakerOf KW (upR (upR (upR (upR hi 6 P) 7 A) 8 B) 9 D) hl (hi 5 k) (by omega) _ ?_
              refine V.qI (pc := 128) rfl rfl ?_
              refine V.istore_n (pc := 131) (i := 3) dX3_readDays_131 rfl (by decide) (ls' := [(3, vI (spOf (hi 5 k))), (5, vI (hi 5 k)), (0, vR 4), (1, vR 6), (2, vI ((s.1 : Nat) : Int)), (4, vI ((k : Nat) : Int))]) rfl ?_
              refine V.iload_n (pc := 132) 0 dX3_readDays_132 rfl ?_
              refine V.iconst (pc := 133) (z := (-1)) dX3_readDays_133 rfl ⟨by decide, by decide⟩ ?_
              refine V.icmp_eq (pc := 134) 146 dX3_readDays_134 (by decide) (fun h134 => ?_) (fun h134 => ?_)
              · skip
                refine V.iload (pc := 146) 5 dX3_readDays_146 rfl ?_
                refine V.iret (pc := 148) (z := ((k : Nat) : Int)) dX3_readDays_148 rfl ?_
                have e := dayF_bad hE (by unfold pstep; rw [if_neg (by omega), if_neg (by omega), if_pos (by omega)]) (show k < m by omega)
                rw [e] at hF
                exact hF (by omega) P A B D
              · skip
                refine V.aload_n (pc := 137) 3 dX3_readDays_137 rfl ?_
                refine V.gi (pc := 138) 1 3 ((s.2.2.1 : Nat) : Int) flX3_27 dX3_readDays_138 (kS_6) (by decide) (by decide) rfl (hP) ?_
                refine V.bipush (pc := 141) (z := 16) dX3_readDays_141 (by decide +kernel) ⟨by decide, by decide⟩ ?_
                refine V.icmp_lt (pc := 143) 149 dX3_readDays_143 (by decide) (fun h143 => ?_) (fun h143 => ?_)
                · skip
                  have hE2 : dF (hi 5) (k + 1) = (-6, pBeg (hi 5 k) s) := dF_ok hE (by unfold pstep; rw [if_neg (by omega), if_neg (by omega), if_neg (by omega)])
                  refine V.iload_n (pc := 149) 0 dX3_readDays_149 rfl ?_
                  refine V.bipush (pc := 150) (z := 7) dX3_readDays_150 (by decide +kernel) ⟨by decide, by decide⟩ ?_
                  refine V.icmp_ne (pc := 152) 159 dX3_readDays_152 (by decide) (fun h152 => ?_) (fun h152 => ?_)
                  · skip
                    refine V.iconst (pc := 159) (z := 1) dX3_readDays_159 rfl ⟨by decide, by decide⟩ ?_
                    refine V.top (v' := vI (((pBeg (hi 5 k) s).1 : Nat) : Int)) (by rw [show (pBeg (hi 5 k) s).1 = 1 by unfold pBeg; rw [if_neg (by omega)]]; rfl) ?_
                    refine V.istore_n (pc := 160) (i := 2) dX3_readDays_160 rfl (by decide) (ls' := [(2, vI (((pBeg (hi 5 k) s).1 : Nat) : Int)), (3, vI (spOf (hi 5 k))), (5, vI (hi 5 k)), (0, vR 4), (1, vR 6), (4, vI ((k : Nat) : Int))]) rfl ?_
                    refine V.iinc (pc := 161) (r := ((k + 1 : Nat) : Int)) 5 dX3_readDays_161 rfl (w32_of (by omega) (by omega) (by omega)) (by decide) (ls' := [(4, vI ((k + 1 : Nat) : Int)), (2, vI (((pBeg (hi 5 k) s).1 : Nat) : Int)), (3, vI (spOf (hi 5 k))), (5, vI (hi 5 k)), (0, vR 4), (1, vR 6)]) rfl ?_
                    refine V.goto (pc := 164) 13 dX3_readDays_164 (by decide) ?_
                    refine V.locs [4, 5, 1, 2, 0] (ls' := [(0, vR 4), (1, vR 6), (2, vI (((pBeg (hi 5 k) s).1 : Nat) : Int)), (3, vI (spOf (hi 5 k))), (4, vI ((k + 1 : Nat) : Int))]) rfl ?_
                    exact ih13 (k + 1) (pBeg (hi 5 k) s) P A B D (by omega) (hE2) (AgP_beg (hi 5 k) hA) (by omega)
                  · skip
                    refine V.iconst (pc := 155) (z := 2) dX3_readDays_155 rfl ⟨by decide, by decide⟩ ?_
                    refine V.top (v' := vI (((pBeg (hi 5 k) s).1 : Nat) : Int)) (by rw [show (pBeg (hi 5 k) s).1 = 2 by unfold pBeg; rw [if_pos (by omega)]]; rfl) ?_
                    refine V.goto (pc := 156) 160 dX3_readDays_156 (by decide) ?_
                    refine V.istore_n (pc := 160) (i := 2) dX3_readDays_160 rfl (by decide) (ls' := [(2, vI (((pBeg (hi 5 k) s).1 : Nat) : Int)), (3, vI (spOf (hi 5 k))), (5, vI (hi 5 k)), (0, vR 4), (1, vR 6), (4, vI ((k : Nat) : Int))]) rfl ?_
                    refine V.iinc (pc := 161) (r := ((k + 1 : Nat) : Int)) 5 dX3_readDays_161 rfl (w32_of (by omega) (by omega) (by omega)) (by decide) (ls' := [(4, vI ((k + 1 : Nat) : Int)), (2, vI (((pBeg (hi 5 k) s).1 : Nat) : Int)), (3, vI (spOf (hi 5 k))), (5, vI (hi 5 k)), (0, vR 4), (1, vR 6)]) rfl ?_
                    refine V.goto (pc := 164) 13 dX3_readDays_164 (by decide) ?_
                    refine V.locs [4, 5, 1, 2, 0] (ls' := [(0, vR 4), (1, vR 6), (2, vI (((pBeg (hi 5 k) s).1 : Nat) : Int)), (3, vI (spOf (hi 5 k))), (4, vI ((k + 1 : Nat) : Int))]) rfl ?_
                    exact ih13 (k + 1) (pBeg (hi 5 k) s) P A B D (by omega) (hE2) (AgP_beg (hi 5 k) hA) (by omega)
                · skip
                  refine V.iload (pc := 146) 5 dX3_readDays_146 rfl ?_
                  refine V.iret (pc := 148) (z := ((k : Nat) : Int)) dX3_readDays_148 rfl ?_
                  have e := dayF_bad hE (by unfold pstep; rw [if_neg (by omega), if_neg (by omega), if_pos (by omega)]) (show k < m by omega)
                  rw [e] at hF
                  exact hF (by omega) P A B D
            · skip
              refine V.iload (pc := 98) 0 dX3_readDays_98 rfl ?_
              refine V.bipush (pc := 100) (z := 49) dX3_readDays_100 (by decide +kernel) ⟨by decide, by decide⟩ ?_
              refine V.icmp_lt (pc := 102) 126 dX3_readDays_102 (by decide) (fun h102 => ?_) (fun h102 => ?_)
              · skip
                refine V.iload (pc := 126) 0 dX3_readDays_126 rfl ?_
                refine V.callS (pc := 128) (e1 := eX3_speakerOf) 1 [vI (hi 5 k)] [] mfX3_speakerOf slX3_speakerOf mlX3_44 dX3_readDays_128 rfl rfl (Nat.le_of_ble_eq_true rfl) ⟨by decide, by decide, by decide, by decide⟩ ?_
                refine c_X3_speakerOf KW (upR (upR (upR (upR hi 6 P) 7 A) 8 B) 9 D) hl (hi 5 k) (by omega) _ ?_
                refine V.qI (pc := 128) rfl rfl ?_
                refine V.istore_n (pc := 131) (i := 3) dX3_readDays_131 rfl (by decide) (ls' := [(3, vI (spOf (hi 5 k))), (5, vI (hi 5 k)), (0, vR 4), (1, vR 6), (2, vI ((s.1 : Nat) : Int)), (4, vI ((k : Nat) : Int))]) rfl ?_
                refine V.iload_n (pc := 132) 0 dX3_readDays_132 rfl ?_
                refine V.iconst (pc := 133) (z := (-1)) dX3_readDays_133 rfl ⟨by decide, by decide⟩ ?_
                refine V.icmp_eq (pc := 134) 146 dX3_readDays_134 (by decide) (fun h134 => ?_) (fun h134 => ?_)
                · skip
                  refine V.iload (pc := 146) 5 dX3_readDays_146 rfl ?_
                  refine V.iret (pc := 148) (z := ((k : Nat) : Int)) dX3_readDays_148 rfl ?_
                  have e := dayF_bad hE (by unfold pstep; rw [if_neg (by omega), if_neg (by omega), if_pos (by omega)]) (show k < m by omega)
                  rw [e] at hF
                  exact hF (by omega) P A B D
                · skip
                  refine V.aload_n (pc := 137) 3 dX3_readDays_137 rfl ?_
                  refine V.gi (pc := 138) 1 3 ((s.2.2.1 : Nat) : Int) flX3_27 dX3_readDays_138 (kS_6) (by decide) (by decide) rfl (hP) ?_
                  refine V.bipush (pc := 141) (z := 16) dX3_readDays_141 (by decide +kernel) ⟨by decide, by decide⟩ ?_
                  refine V.icmp_lt (pc := 143) 149 dX3_readDays_143 (by decide) (fun h143 => ?_) (fun h143 => ?_)
                  · skip
                    have hE2 : dF (hi 5) (k + 1) = (-6, pBeg (hi 5 k) s) := dF_ok hE (by unfold pstep; rw [if_neg (by omega), if_neg (by omega), if_neg (by omega)])
                    refine V.iload_n (pc := 149) 0 dX3_readDays_149 rfl ?_
                    refine V.bipush (pc := 150) (z := 7) dX3_readDays_150 (by decide +kernel) ⟨by decide, by decide⟩ ?_
                    refine V.icmp_ne (pc := 152) 159 dX3_readDays_152 (by decide) (fun h152 => ?_) (fun h152 => ?_)
                    · skip
                      refine V.iconst (pc := 159) (z := 1) dX3_readDays_159 rfl ⟨by decide, by decide⟩ ?_
                      refine V.top (v' := vI (((pBeg (hi 5 k) s).1 : Nat) : Int)) (by rw [show (pBeg (hi 5 k) s).1 = 1 by unfold pBeg; rw [if_neg (by omega)]]; rfl) ?_
                      refine V.istore_n (pc := 160) (i := 2) dX3_readDays_160 rfl (by decide) (ls' := [(2, vI (((pBeg (hi 5 k) s).1 : Nat) : Int)), (3, vI (spOf (hi 5 k))), (5, vI (hi 5 k)), (0, vR 4), (1, vR 6), (4, vI ((k : Nat) : Int))]) rfl ?_
                      refine V.iinc (pc := 161) (r := ((k + 1 : Nat) : Int)) 5 dX3_readDays_161 rfl (w32_of (by omega) (by omega) (by omega)) (by decide) (ls' := [(4, vI ((k + 1 : Nat) : Int)), (2, vI (((pBeg (hi 5 k) s).1 : Nat) : Int)), (3, vI (spOf (hi 5 k))), (5, vI (hi 5 k)), (0, vR 4), (1, vR 6)]) rfl ?_
                      refine V.goto (pc := 164) 13 dX3_readDays_164 (by decide) ?_
                      refine V.locs [4, 5, 1, 2, 0] (ls' := [(0, vR 4), (1, vR 6), (2, vI (((pBeg (hi 5 k) s).1 : Nat) : Int)), (3, vI (spOf (hi 5 k))), (4, vI ((k + 1 : Nat) : Int))]) rfl ?_
                      exact ih13 (k + 1) (pBeg (hi 5 k) s) P A B D (by omega) (hE2) (AgP_beg (hi 5 k) hA) (by omega)
                    · skip
                      refine V.iconst (pc := 155) (z := 2) dX3_readDays_155 rfl ⟨by decide, by decide⟩ ?_
                      refine V.top (v' := vI (((pBeg (hi 5 k) s).1 : Nat) : Int)) (by rw [show (pBeg (hi 5 k) s).1 = 2 by unfold pBeg; rw [if_pos (by omega)]]; rfl) ?_
                      refine V.goto (pc := 156) 160 dX3_readDays_156 (by decide) ?_
                      refine V.istore_n (pc := 160) (i := 2) dX3_readDays_160 rfl (by decide) (ls' := [(2, vI (((pBeg (hi 5 k) s).1 : Nat) : Int)), (3, vI (spOf (hi 5 k))), (5, vI (hi 5 k)), (0, vR 4), (1, vR 6), (4, vI ((k : Nat) : Int))]) rfl ?_
                      refine V.iinc (pc := 161) (r := ((k + 1 : Nat) : Int)) 5 dX3_readDays_161 rfl (w32_of (by omega) (by omega) (by omega)) (by decide) (ls' := [(4, vI ((k + 1 : Nat) : Int)), (2, vI (((pBeg (hi 5 k) s).1 : Nat) : Int)), (3, vI (spOf (hi 5 k))), (5, vI (hi 5 k)), (0, vR 4), (1, vR 6)]) rfl ?_
                      refine V.goto (pc := 164) 13 dX3_readDays_164 (by decide) ?_
                      refine V.locs [4, 5, 1, 2, 0] (ls' := [(0, vR 4), (1, vR 6), (2, vI (((pBeg (hi 5 k) s).1 : Nat) : Int)), (3, vI (spOf (hi 5 k))), (4, vI ((k + 1 : Nat) : Int))]) rfl ?_
                      exact ih13 (k + 1) (pBeg (hi 5 k) s) P A B D (by omega) (hE2) (AgP_beg (hi 5 k) hA) (by omega)
                  · skip
                    refine V.iload (pc := 146) 5 dX3_readDays_146 rfl ?_
                    refine V.iret (pc := 148) (z := ((k : Nat) : Int)) dX3_readDays_148 rfl ?_
                    have e := dayF_bad hE (by unfold pstep; rw [if_neg (by omega), if_neg (by omega), if_pos (by omega)]) (show k < m by omega)
                    rw [e] at hF
                    exact hF (by omega) P A B D
              · skip
                refine V.iload (pc := 105) 0 dX3_readDays_105 rfl ?_
                refine V.bipush (pc := 107) (z := 57) dX3_readDays_107 (by decide +kernel) ⟨by decide, by decide⟩ ?_
                refine V.icmp_gt (pc := 109) 126 dX3_readDays_109 (by decide) (fun h109 => ?_) (fun h109 => ?_)
                · skip
                  refine V.iload (pc := 126) 0 dX3_readDays_126 rfl ?_
                  refine V.callS (pc := 128) (e1 := eX3_speakerOf) 1 [vI (hi 5 k)] [] mfX3_speakerOf slX3_speakerOf mlX3_44 dX3_readDays_128 rfl rfl (Nat.le_of_ble_eq_true rfl) ⟨by decide, by decide, by decide, by decide⟩ ?_
                  refine c_X3_speakerOf KW (upR (upR (upR (upR hi 6 P) 7 A) 8 B) 9 D) hl (hi 5 k) (by omega) _ ?_
                  refine V.qI (pc := 128) rfl rfl ?_
                  refine V.istore_n (pc := 131) (i := 3) dX3_readDays_131 rfl (by decide) (ls' := [(3, vI (spOf (hi 5 k))), (5, vI (hi 5 k)), (0, vR 4), (1, vR 6), (2, vI ((s.1 : Nat) : Int)), (4, vI ((k : Nat) : Int))]) rfl ?_
                  refine V.iload_n (pc := 132) 0 dX3_readDays_132 rfl ?_
                  refine V.iconst (pc := 133) (z := (-1)) dX3_readDays_133 rfl ⟨by decide, by decide⟩ ?_
                  refine V.icmp_eq (pc := 134) 146 dX3_readDays_134 (by decide) (fun h134 => ?_) (fun h134 => ?_)
                  · skip
                    refine V.iload (pc := 146) 5 dX3_readDays_146 rfl ?_
                    refine V.iret (pc := 148) (z := ((k : Nat) : Int)) dX3_readDays_148 rfl ?_
                    have e := dayF_bad hE (by unfold pstep; rw [if_neg (by omega), if_neg (by omega), if_pos (by omega)]) (show k < m by omega)
                    rw [e] at hF
                    exact hF (by omega) P A B D
                  · skip
                    refine V.aload_n (pc := 137) 3 dX3_readDays_137 rfl ?_
                    refine V.gi (pc := 138) 1 3 ((s.2.2.1 : Nat) : Int) flX3_27 dX3_readDays_138 (kS_6) (by decide) (by decide) rfl (hP) ?_
                    refine V.bipush (pc := 141) (z := 16) dX3_readDays_141 (by decide +kernel) ⟨by decide, by decide⟩ ?_
                    refine V.icmp_lt (pc := 143) 149 dX3_readDays_143 (by decide) (fun h143 => ?_) (fun h143 => ?_)
                    · skip
                      have hE2 : dF (hi 5) (k + 1) = (-6, pBeg (hi 5 k) s) := dF_ok hE (by unfold pstep; rw [if_neg (by omega), if_neg (by omega), if_neg (by omega)])
                      refine V.iload_n (pc := 149) 0 dX3_readDays_149 rfl ?_
                      refine V.bipush (pc := 150) (z := 7) dX3_readDays_150 (by decide +kernel) ⟨by decide, by decide⟩ ?_
                      refine V.icmp_ne (pc := 152) 159 dX3_readDays_152 (by decide) (fun h152 => ?_) (fun h152 => ?_)
                      · skip
                        refine V.iconst (pc := 159) (z := 1) dX3_readDays_159 rfl ⟨by decide, by decide⟩ ?_
                        refine V.top (v' := vI (((pBeg (hi 5 k) s).1 : Nat) : Int)) (by rw [show (pBeg (hi 5 k) s).1 = 1 by unfold pBeg; rw [if_neg (by omega)]]; rfl) ?_
                        refine V.istore_n (pc := 160) (i := 2) dX3_readDays_160 rfl (by decide) (ls' := [(2, vI (((pBeg (hi 5 k) s).1 : Nat) : Int)), (3, vI (spOf (hi 5 k))), (5, vI (hi 5 k)), (0, vR 4), (1, vR 6), (4, vI ((k : Nat) : Int))]) rfl ?_
                        refine V.iinc (pc := 161) (r := ((k + 1 : Nat) : Int)) 5 dX3_readDays_161 rfl (w32_of (by omega) (by omega) (by omega)) (by decide) (ls' := [(4, vI ((k + 1 : Nat) : Int)), (2, vI (((pBeg (hi 5 k) s).1 : Nat) : Int)), (3, vI (spOf (hi 5 k))), (5, vI (hi 5 k)), (0, vR 4), (1, vR 6)]) rfl ?_
                        refine V.goto (pc := 164) 13 dX3_readDays_164 (by decide) ?_
                        refine V.locs [4, 5, 1, 2, 0] (ls' := [(0, vR 4), (1, vR 6), (2, vI (((pBeg (hi 5 k) s).1 : Nat) : Int)), (3, vI (spOf (hi 5 k))), (4, vI ((k + 1 : Nat) : Int))]) rfl ?_
                        exact ih13 (k + 1) (pBeg (hi 5 k) s) P A B D (by omega) (hE2) (AgP_beg (hi 5 k) hA) (by omega)
                      · skip
                        refine V.iconst (pc := 155) (z := 2) dX3_readDays_155 rfl ⟨by decide, by decide⟩ ?_
                        refine V.top (v' := vI (((pBeg (hi 5 k) s).1 : Nat) : Int)) (by rw [show (pBeg (hi 5 k) s).1 = 2 by unfold pBeg; rw [if_pos (by omega)]]; rfl) ?_
                        refine V.goto (pc := 156) 160 dX3_readDays_156 (by decide) ?_
                        refine V.istore_n (pc := 160) (i := 2) dX3_readDays_160 rfl (by decide) (ls' := [(2, vI (((pBeg (hi 5 k) s).1 : Nat) : Int)), (3, vI (spOf (hi 5 k))), (5, vI (hi 5 k)), (0, vR 4), (1, vR 6), (4, vI ((k : Nat) : Int))]) rfl ?_
                        refine V.iinc (pc := 161) (r := ((k + 1 : Nat) : Int)) 5 dX3_readDays_161 rfl (w32_of (by omega) (by omega) (by omega)) (by decide) (ls' := [(4, vI ((k + 1 : Nat) : Int)), (2, vI (((pBeg (hi 5 k) s).1 : Nat) : Int)), (3, vI (spOf (hi 5 k))), (5, vI (hi 5 k)), (0, vR 4), (1, vR 6)]) rfl ?_
                        refine V.goto (pc := 164) 13 dX3_readDays_164 (by decide) ?_
                        refine V.locs [4, 5, 1, 2, 0] (ls' := [(0, vR 4), (1, vR 6), (2, vI (((pBeg (hi 5 k) s).1 : Nat) : Int)), (3, vI (spOf (hi 5 k))), (4, vI ((k + 1 : Nat) : Int))]) rfl ?_
                        exact ih13 (k + 1) (pBeg (hi 5 k) s) P A B D (by omega) (hE2) (AgP_beg (hi 5 k) hA) (by omega)
                    · skip
                      refine V.iload (pc := 146) 5 dX3_readDays_146 rfl ?_
                      refine V.iret (pc := 148) (z := ((k : Nat) : Int)) dX3_readDays_148 rfl ?_
                      have e := dayF_bad hE (by unfold pstep; rw [if_neg (by omega), if_neg (by omega), if_pos (by omega)]) (show k < m by omega)
                      rw [e] at hF
                      exact hF (by omega) P A B D
                · skip
                  refine V.aload_n (pc := 112) 2 dX3_readDays_112 rfl ?_
                  refine V.iload (pc := 113) 0 dX3_readDays_113 rfl ?_
                  refine V.bipush (pc := 115) (z := 48) dX3_readDays_115 (by decide +kernel) ⟨by decide, by decide⟩ ?_
                  refine V.isub (pc := 117) (((hi 5 k) - 48)) dX3_readDays_117 (w32_of (by omega) (by omega) (by omega)) ?_
                  refine V.callV (pc := 118) (e1 := eX1_setLastDigit) (o := 6) (c := 1) 1 [vI ((hi 5 k) - 48)] [] mfX1_setLastDigit slX1_setLastDigit mlX3_40 dX3_readDays_118 (kS_6) (by decide) rfl rfl rfl (Nat.le_of_ble_eq_true rfl) ⟨by decide, by decide, by decide, by decide⟩ ?_
                  refine c_X1_setLastDigit (upR (upR (upR (upR hi 6 P) 7 A) 8 B) 9 D) hl s.2.2.1 (by have := a4 (by omega); omega) (hP) ((hi 5 k) - 48) _ ?_
                  refine V.qV (pc := 118) rfl rfl ?_
                  refine V.hieq (hi' := (upR (upR (upR (upR hi 6 P) 7 A) 8 B) 9 (updF D (s.2.2.1 - 1) ((hi 5 k) - 48)))) r1 ?_
                  have hE2 : dF (hi 5) (k + 1) = (-6, pDig (hi 5 k) s) := dF_ok hE (by unfold pstep; rw [if_neg (by omega), if_pos (by omega)])
                  refine V.iconst (pc := 121) (z := 0) dX3_readDays_121 rfl ⟨by decide, by decide⟩ ?_
                  refine V.istore_n (pc := 122) (i := 2) dX3_readDays_122 rfl (by decide) (ls' := [(2, vI 0), (5, vI (hi 5 k)), (0, vR 4), (1, vR 6), (3, vI s.2.1), (4, vI ((k : Nat) : Int))]) rfl ?_
                  refine V.goto (pc := 123) 161 dX3_readDays_123 (by decide) ?_
                  refine V.iinc (pc := 161) (r := ((k + 1 : Nat) : Int)) 5 dX3_readDays_161 rfl (w32_of (by omega) (by omega) (by omega)) (by decide) (ls' := [(4, vI ((k + 1 : Nat) : Int)), (2, vI 0), (5, vI (hi 5 k)), (0, vR 4), (1, vR 6), (3, vI s.2.1)]) rfl ?_
                  refine V.goto (pc := 164) 13 dX3_readDays_164 (by decide) ?_
                  refine V.locs [3, 4, 1, 5, 0] (ls' := [(0, vR 4), (1, vR 6), (2, vI 0), (3, vI s.2.1), (4, vI ((k + 1 : Nat) : Int))]) rfl ?_
                  exact ih13 (k + 1) (pDig (hi 5 k) s) P A B (updF D (s.2.2.1 - 1) ((hi 5 k) - 48)) (by omega) (hE2) (AgP_dig (hi 5 k) hA) (by omega)
          · skip
            refine V.iload (pc := 48) 0 dX3_readDays_48 rfl ?_
            refine V.bipush (pc := 50) (z := 65) dX3_readDays_50 (by decide +kernel) ⟨by decide, by decide⟩ ?_
            refine V.isub (pc := 52) (((hi 5 k) - 65)) dX3_readDays_52 (w32_of (by omega) (by omega) (by omega)) ?_
            refine V.istore (pc := 53) (i := 6) dX3_readDays_53 (by decide) (ls' := [(6, vI ((hi 5 k) - 65)), (5, vI (hi 5 k)), (0, vR 4), (1, vR 6), (2, vI ((s.1 : Nat) : Int)), (3, vI s.2.1), (4, vI ((k : Nat) : Int))]) rfl ?_
            refine V.iload (pc := 55) 0 dX3_readDays_55 rfl ?_
            refine V.callS (pc := 57) (e1 := eX7_isBird) 1 [vI ((hi 5 k) - 65)] [] mfX7_isBird slX7_isBird mlX3_32 dX3_readDays_57 rfl rfl (Nat.le_of_ble_eq_true rfl) ⟨by decide, by decide, by decide, by decide⟩ ?_
            refine c_X7_isBird KW (upR (upR (upR (upR hi 6 P) 7 A) 8 B) 9 D) hl ((hi 5 k) - 65) _ (fun hb => ?_) (fun hb => ?_)
            · skip
              refine V.qI (pc := 57) rfl rfl ?_
              refine V.if_eq (pc := 60) 69 dX3_readDays_60 (by decide) (fun hc => by exact absurd hc (by decide)) (fun h60 => ?_)
              refine V.iload (pc := 63) 0 dX3_readDays_63 rfl ?_
              refine V.iload_n (pc := 65) 5 dX3_readDays_65 rfl ?_
              refine V.icmp_ne (pc := 66) 72 dX3_readDays_66 (by decide) (fun h66 => ?_) (fun h66 => ?_)
              · skip
                refine V.aload_n (pc := 72) 3 dX3_readDays_72 rfl ?_
                refine V.iload_n (pc := 73) 5 dX3_readDays_73 rfl ?_
                refine V.iload (pc := 74) 0 dX3_readDays_74 rfl ?_
                refine V.callV (pc := 76) (e1 := eX1_add) (o := 6) (c := 1) 2 [vI s.2.1, vI ((hi 5 k) - 65)] [] mfX1_add slX1_add mlX3_36 dX3_readDays_76 (kS_6) (by decide) rfl rfl rfl (Nat.le_of_ble_eq_true rfl) ⟨by decide, by decide, by decide, by decide⟩ ?_
                refine c_X1_add (upR (upR (upR (upR hi 6 P) 7 A) 8 B) 9 D) hl s.2.2.1 (by have := a3 (by omega); omega) (hP) (s.2.1) ((hi 5 k) - 65) _ ?_
                refine V.qV (pc := 76) rfl rfl ?_
                refine V.hieq (hi' := (upR (upR (upR (upR hi 6 (updF P 3 ((s.2.2.1 + 1 : Nat) : Int))) 7 (updF A (s.2.2.1) (s.2.1))) 8 (updF B (s.2.2.1) ((hi 5 k) - 65))) 9 (updF D (s.2.2.1) 0))) ((upR_c ((upR_c ((upR_c (rs (by decide) (rs (by decide) (rs (by decide) r1)))).trans r1)).trans (rs (by decide) r1))).trans (rs (by decide) (rs (by decide) r1))) ?_
                refine V.iload_n (pc := 79) 4 dX3_readDays_79 rfl ?_
                refine V.iconst (pc := 80) (z := 1) dX3_readDays_80 rfl ⟨by decide, by decide⟩ ?_
                refine V.icmp_ne (pc := 81) 88 dX3_readDays_81 (by decide) (fun h81 => ?_) (fun hc => by exfalso; omega)
                have hE2 : dF (hi 5) (k + 1) = (-6, pHear (hi 5 k) s) := dF_ok hE (by unfold pstep; rw [if_pos (by omega), if_pos (by omega)])
                refine V.iconst (pc := 88) (z := 0) dX3_readDays_88 rfl ⟨by decide, by decide⟩ ?_
                refine V.top (v' := vI (((pHear (hi 5 k) s).1 : Nat) : Int)) (by rw [show (pHear (hi 5 k) s).1 = 0 by unfold pHear; rw [if_neg (by omega)]]; rfl) ?_
                refine V.istore_n (pc := 89) (i := 2) dX3_readDays_89 rfl (by decide) (ls' := [(2, vI (((pHear (hi 5 k) s).1 : Nat) : Int)), (6, vI ((hi 5 k) - 65)), (5, vI (hi 5 k)), (0, vR 4), (1, vR 6), (3, vI s.2.1), (4, vI ((k : Nat) : Int))]) rfl ?_
                refine V.goto (pc := 90) 161 dX3_readDays_90 (by decide) ?_
                refine V.iinc (pc := 161) (r := ((k + 1 : Nat) : Int)) 6 dX3_readDays_161 rfl (w32_of (by omega) (by omega) (by omega)) (by decide) (ls' := [(4, vI ((k + 1 : Nat) : Int)), (2, vI (((pHear (hi 5 k) s).1 : Nat) : Int)), (6, vI ((hi 5 k) - 65)), (5, vI (hi 5 k)), (0, vR 4), (1, vR 6), (3, vI s.2.1)]) rfl ?_
                refine V.goto (pc := 164) 13 dX3_readDays_164 (by decide) ?_
                refine V.locs [4, 5, 1, 6, 0] (ls' := [(0, vR 4), (1, vR 6), (2, vI (((pHear (hi 5 k) s).1 : Nat) : Int)), (3, vI s.2.1), (4, vI ((k + 1 : Nat) : Int))]) rfl ?_
                exact ih13 (k + 1) (pHear (hi 5 k) s) (updF P 3 ((s.2.2.1 + 1 : Nat) : Int)) (updF A (s.2.2.1) (s.2.1)) (updF B (s.2.2.1) ((hi 5 k) - 65)) (updF D (s.2.2.1) 0) (by omega) (hE2) (AgP_hear (hi 5 k) hA) (by omega)
              · skip
                refine V.iload (pc := 69) 6 dX3_readDays_69 rfl ?_
                refine V.iret (pc := 71) (z := ((k : Nat) : Int)) dX3_readDays_71 rfl ?_
                have e := dayF_bad hE (by unfold pstep; rw [if_pos (by omega), if_neg (by omega)]) (show k < m by omega)
                rw [e] at hF
                exact hF (by omega) P A B D
            · skip
              refine V.qI (pc := 57) rfl rfl ?_
              refine V.if_eq (pc := 60) 69 dX3_readDays_60 (by decide) (fun h60 => ?_) (fun hc => by exact absurd hc (by decide))
              refine V.iload (pc := 69) 6 dX3_readDays_69 rfl ?_
              refine V.iret (pc := 71) (z := ((k : Nat) : Int)) dX3_readDays_71 rfl ?_
              have e := dayF_bad hE (by unfold pstep; rw [if_pos (by omega), if_neg (by omega)]) (show k < m by omega)
              rw [e] at hF
              exact hF (by omega) P A B D
  refine V.locs [3, 4, 2, 1, 0] (ls' := [(0, vR 4), (1, vR 6), (2, vI 0), (3, vI 6), (4, vI 0)]) rfl ?_
  exact lp13 _ 0 p0 (updF (hi 6) 3 0) (hi 7) (hi 8) (hi 9) (by omega) (rfl) (⟨by rw [updF_s]; rfl, fun j hj => absurd hj (Nat.not_lt_zero j)⟩) (Nat.lt_succ_self _)

set_option maxRecDepth 100000 in
theorem c_X1_isAnswer (hi hl : HI) (p : Nat) (hp : 1 ≤ p ∧ p < 16) (Q : QT) (hT : (hi 14 (p - 1) = hi 15 p ∧ hi 15 (p - 1) = hi 14 p) → Q (some (vI 1)) KW hi hl) (hF : ¬ (hi 14 (p - 1) = hi 15 p ∧ hi 15 (p - 1) = hi 14 p) → Q (some (vI 0)) KW hi hl) : Con eX1_isAnswer [vR 13, vI (p : Nat)] KW hi hl Q := by
  refine Con.ofV (by decide +kernel) (Nat.le_of_ble_eq_true rfl) ?_
  show V eX1_isAnswer none KW 0 [(0, vR 13), (1, vI ((p : Nat) : Int))] [] hi hl 0 0 Q
  refine V.iload_n (pc := 0) 1 dX1_isAnswer_0 rfl ?_
  refine V.iconst (pc := 1) (z := 1) dX1_isAnswer_1 rfl ⟨by decide, by decide⟩ ?_
  refine V.icmp_lt (pc := 2) 11 dX1_isAnswer_2 (by decide) (fun hc => by exfalso; omega) (fun h2 => ?_)
  refine V.iload_n (pc := 5) 1 dX1_isAnswer_5 rfl ?_
  refine V.bipush (pc := 6) (z := 16) dX1_isAnswer_6 (by decide +kernel) ⟨by decide, by decide⟩ ?_
  refine V.icmp_lt (pc := 8) 13 dX1_isAnswer_8 (by decide) (fun h8 => ?_) (fun hc => by exfalso; omega)
  refine V.aload_n (pc := 13) 0 dX1_isAnswer_13 rfl ?_
  refine V.gr (pc := 14) 1 0 14 flX1_9 dX1_isAnswer_14 (kS_13) (by decide) (by decide) rfl (kR_13_0) ?_
  refine V.iload_n (pc := 17) 1 dX1_isAnswer_17 rfl ?_
  refine V.iconst (pc := 18) (z := 1) dX1_isAnswer_18 rfl ⟨by decide, by decide⟩ ?_
  refine V.isub (pc := 19) (((p - 1 : Nat) : Int)) dX1_isAnswer_19 (subN (a := p) (b := 1) (by omega) (by omega)) ?_
  refine V.ia (pc := 20) (len := 16) (p - 1) (hi 14 (p - 1)) dX1_isAnswer_20 (kS_14) (rfl) (by omega) (rfl) ?_
  refine V.aload_n (pc := 21) 0 dX1_isAnswer_21 rfl ?_
  refine V.gr (pc := 22) 1 1 15 flX1_15 dX1_isAnswer_22 (kS_13) (by decide) (by decide) rfl (kR_13_1) ?_
  refine V.iload_n (pc := 25) 1 dX1_isAnswer_25 rfl ?_
  refine V.ia (pc := 26) (len := 16) p (hi 15 p) dX1_isAnswer_26 (kS_15) (rfl) (by omega) (rfl) ?_
  refine V.icmp_ne (pc := 27) 51 dX1_isAnswer_27 (by decide) (fun h27 => ?_) (fun h27 => ?_)
  · skip
    refine V.iconst (pc := 51) (z := 0) dX1_isAnswer_51 rfl ⟨by decide, by decide⟩ ?_
    refine V.zret (pc := 52) (z := 0) dX1_isAnswer_52 rfl (Or.inl rfl) ?_
    exact hF (by omega)
  · skip
    refine V.aload_n (pc := 30) 0 dX1_isAnswer_30 rfl ?_
    refine V.gr (pc := 31) 1 1 15 flX1_15 dX1_isAnswer_31 (kS_13) (by decide) (by decide) rfl (kR_13_1) ?_
    refine V.iload_n (pc := 34) 1 dX1_isAnswer_34 rfl ?_
    refine V.iconst (pc := 35) (z := 1) dX1_isAnswer_35 rfl ⟨by decide, by decide⟩ ?_
    refine V.isub (pc := 36) (((p - 1 : Nat) : Int)) dX1_isAnswer_36 (subN (a := p) (b := 1) (by omega) (by omega)) ?_
    refine V.ia (pc := 37) (len := 16) (p - 1) (hi 15 (p - 1)) dX1_isAnswer_37 (kS_15) (rfl) (by omega) (rfl) ?_
    refine V.aload_n (pc := 38) 0 dX1_isAnswer_38 rfl ?_
    refine V.gr (pc := 39) 1 0 14 flX1_9 dX1_isAnswer_39 (kS_13) (by decide) (by decide) rfl (kR_13_0) ?_
    refine V.iload_n (pc := 42) 1 dX1_isAnswer_42 rfl ?_
    refine V.ia (pc := 43) (len := 16) p (hi 14 p) dX1_isAnswer_43 (kS_14) (rfl) (by omega) (rfl) ?_
    refine V.icmp_ne (pc := 44) 51 dX1_isAnswer_44 (by decide) (fun h44 => ?_) (fun h44 => ?_)
    · skip
      refine V.iconst (pc := 51) (z := 0) dX1_isAnswer_51 rfl ⟨by decide, by decide⟩ ?_
      refine V.zret (pc := 52) (z := 0) dX1_isAnswer_52 rfl (Or.inl rfl) ?_
      exact hF (by omega)
    · skip
      refine V.iconst (pc := 47) (z := 1) dX1_isAnswer_47 rfl ⟨by decide, by decide⟩ ?_
      refine V.goto (pc := 48) 52 dX1_isAnswer_48 (by decide) ?_
      refine V.zret (pc := 52) (z := 1) dX1_isAnswer_52 rfl (Or.inr rfl) ?_
      exact hT (by omega)

set_option maxRecDepth 100000 in
theorem c_X1_copy_13_6 (hi hl : HI) (Q : QT) (hq : ∀ f1 f2 f3', (∀ j, j < 16 → f1 j = hi 7 j ∧ f2 j = hi 8 j ∧ f3' j = hi 9 j) → Q none KW (upR (upR (upR (upR hi 13 (updF (hi 13) 3 (hi 6 3))) 16 f3') 15 f2) 14 f1) hl) : Con eX1_copy [vR 13, vR 6] KW hi hl Q := by
  refine Con.ofV (by decide +kernel) (Nat.le_of_ble_eq_true rfl) ?_
  show V eX1_copy none KW 0 [(0, vR 13), (1, vR 6)] [] hi hl 0 0 Q
  refine V.hieq (hi' := (upR (upR (upR (upR hi 13 (hi 13)) 16 (hi 16)) 15 (hi 15)) 14 (hi 14))) (by rw [upR_id, upR_id, upR_id, upR_id]) ?_
  refine V.iconst (pc := 0) (z := 0) dX1_copy_0 rfl ⟨by decide, by decide⟩ ?_
  refine V.istore_n (pc := 1) (i := 2) dX1_copy_1 rfl (by decide) (ls' := [(2, vI 0), (0, vR 13), (1, vR 6)]) rfl ?_
  have lp2 : ∀ (fu2 : Nat) (k : Nat) (f1 : Nat → Int) (f2 : Nat → Int) (f3' : Nat → Int), (k ≤ 16) → (∀ j, j < k → f1 j = hi 7 j ∧ f2 j = hi 8 j ∧ f3' j = hi 9 j) → 16 - k < fu2 → V eX1_copy none KW 2 [(0, vR 13), (1, vR 6), (2, vI ((k : Nat) : Int))] [] (upR (upR (upR (upR hi 13 (hi 13)) 16 (f3')) 15 f2) 14 f1) hl 0 0 Q := by
    intro fu2
    induction fu2 with
    | zero => intro k f1 f2 f3' hk hC hm2; exact absurd hm2 (Nat.not_lt_zero _)
    | succ fu2 ih2 =>
      intro k f1 f2 f3' hk hC hm2
      refine V.iload_n (pc := 2) 2 dX1_copy_2 rfl ?_
      refine V.bipush (pc := 3) (z := 16) dX1_copy_3 (by decide +kernel) ⟨by decide, by decide⟩ ?_
      refine V.icmp_ge (pc := 5) 50 dX1_copy_5 (by decide) (fun h5 => ?_) (fun h5 => ?_)
      · skip
        refine V.aload_n (pc := 50) 0 dX1_copy_50 rfl ?_
        refine V.aload_n (pc := 51) 1 dX1_copy_51 rfl ?_
        refine V.gi (pc := 52) 1 3 (hi 6 3) flX1_21 dX1_copy_52 (kS_6) (by decide) (by decide) rfl (rfl) ?_
        refine V.pi (pc := 55) (hi' := (upR (upR (upR (upR hi 13 (updF (hi 13) 3 (hi 6 3))) 16 (f3')) 15 f2) 14 f1)) 1 3 flX1_21 dX1_copy_55 (kS_13) (by decide) (by decide) rfl rfl (us (by decide) (us (by decide) (us (by decide) u1))) ?_
        refine V.vret (pc := 58) dX1_copy_58 rfl ?_
        exact hq _ _ _ (fun j hj => hC j (by omega))
      · skip
        refine V.aload_n (pc := 8) 0 dX1_copy_8 rfl ?_
        refine V.gr (pc := 9) 1 0 14 flX1_9 dX1_copy_9 (kS_13) (by decide) (by decide) rfl (kR_13_0) ?_
        refine V.iload_n (pc := 12) 2 dX1_copy_12 rfl ?_
        refine V.aload_n (pc := 13) 1 dX1_copy_13 rfl ?_
        refine V.gr (pc := 14) 1 0 7 flX1_9 dX1_copy_14 (kS_6) (by decide) (by decide) rfl (kR_6_0) ?_
        refine V.iload_n (pc := 17) 2 dX1_copy_17 rfl ?_
        refine V.ia (pc := 18) (len := 16) k (hi 7 k) dX1_copy_18 (kS_7) (rfl) (by omega) (rfl) ?_
        refine V.is (pc := 19) (len := 16) (hi' := (upR (upR (upR (upR hi 13 (hi 13)) 16 (f3')) 15 f2) 14 (updF f1 k (hi 7 k)))) k dX1_copy_19 (kS_14) (rfl) (by omega) u1 ?_
        refine V.aload_n (pc := 20) 0 dX1_copy_20 rfl ?_
        refine V.gr (pc := 21) 1 1 15 flX1_15 dX1_copy_21 (kS_13) (by decide) (by decide) rfl (kR_13_1) ?_
        refine V.iload_n (pc := 24) 2 dX1_copy_24 rfl ?_
        refine V.aload_n (pc := 25) 1 dX1_copy_25 rfl ?_
        refine V.gr (pc := 26) 1 1 8 flX1_15 dX1_copy_26 (kS_6) (by decide) (by decide) rfl (kR_6_1) ?_
        refine V.iload_n (pc := 29) 2 dX1_copy_29 rfl ?_
        refine V.ia (pc := 30) (len := 16) k (hi 8 k) dX1_copy_30 (kS_8) (rfl) (by omega) (rfl) ?_
        refine V.is (pc := 31) (len := 16) (hi' := (upR (upR (upR (upR hi 13 (hi 13)) 16 (f3')) 15 (updF f2 k (hi 8 k))) 14 (updF f1 k (hi 7 k)))) k dX1_copy_31 (kS_15) (rfl) (by omega) (us (by decide) u1) ?_
        refine V.aload_n (pc := 32) 0 dX1_copy_32 rfl ?_
        refine V.gr (pc := 33) 1 2 16 flX1_18 dX1_copy_33 (kS_13) (by decide) (by decide) rfl (kR_13_2) ?_
        refine V.iload_n (pc := 36) 2 dX1_copy_36 rfl ?_
        refine V.aload_n (pc := 37) 1 dX1_copy_37 rfl ?_
        refine V.gr (pc := 38) 1 2 9 flX1_18 dX1_copy_38 (kS_6) (by decide) (by decide) rfl (kR_6_2) ?_
        refine V.iload_n (pc := 41) 2 dX1_copy_41 rfl ?_
        refine V.ia (pc := 42) (len := 16) k (hi 9 k) dX1_copy_42 (kS_9) (rfl) (by omega) (rfl) ?_
        refine V.is (pc := 43) (len := 16) (hi' := (upR (upR (upR (upR hi 13 (hi 13)) 16 (updF (f3') k (hi 9 k))) 15 (updF f2 k (hi 8 k))) 14 (updF f1 k (hi 7 k)))) k dX1_copy_43 (kS_16) (rfl) (by omega) (us (by decide) (us (by decide) u1)) ?_
        refine V.iinc (pc := 44) (r := ((k + 1 : Nat) : Int)) 2 dX1_copy_44 rfl (w32_of (by omega) (by omega) (by omega)) (by decide) (ls' := [(2, vI ((k + 1 : Nat) : Int)), (0, vR 13), (1, vR 6)]) rfl ?_
        refine V.goto (pc := 47) 2 dX1_copy_47 (by decide) ?_
        refine V.locs [1, 2, 0] (ls' := [(0, vR 13), (1, vR 6), (2, vI ((k + 1 : Nat) : Int))]) rfl ?_
        exact ih2 (k + 1) (updF f1 k (hi 7 k)) (updF f2 k (hi 8 k)) (updF (f3') k (hi 9 k)) (by omega) (fun j hj => by by_cases e : j = k; { subst e; rw [updF_s, updF_s, updF_s]; exact ⟨rfl, rfl, rfl⟩ }; { rw [updF_n e, updF_n e, updF_n e]; exact hC j (by omega) }) (by omega)
  refine V.locs [1, 2, 0] (ls' := [(0, vR 13), (1, vR 6), (2, vI 0)]) rfl ?_
  exact lp2 _ 0 (hi 14) (hi 15) (hi 16) (by omega) (fun j hj => absurd hj (Nat.not_lt_zero j)) (Nat.lt_succ_self _)

set_option maxRecDepth 100000 in
theorem c_X1_copy_21_13 (hi hl : HI) (Q : QT) (hq : ∀ f1 f2 f3', (∀ j, j < 16 → f1 j = hi 14 j ∧ f2 j = hi 15 j ∧ f3' j = hi 16 j) → Q none KW (upR (upR (upR (upR hi 21 (updF (hi 21) 3 (hi 13 3))) 24 f3') 23 f2) 22 f1) hl) : Con eX1_copy [vR 21, vR 13] KW hi hl Q := by
  refine Con.ofV (by decide +kernel) (Nat.le_of_ble_eq_true rfl) ?_
  show V eX1_copy none KW 0 [(0, vR 21), (1, vR 13)] [] hi hl 0 0 Q
  refine V.hieq (hi' := (upR (upR (upR (upR hi 21 (hi 21)) 24 (hi 24)) 23 (hi 23)) 22 (hi 22))) (by rw [upR_id, upR_id, upR_id, upR_id]) ?_
  refine V.iconst (pc := 0) (z := 0) dX1_copy_0 rfl ⟨by decide, by decide⟩ ?_
  refine V.istore_n (pc := 1) (i := 2) dX1_copy_1 rfl (by decide) (ls' := [(2, vI 0), (0, vR 21), (1, vR 13)]) rfl ?_
  have lp2 : ∀ (fu2 : Nat) (k : Nat) (f1 : Nat → Int) (f2 : Nat → Int) (f3' : Nat → Int), (k ≤ 16) → (∀ j, j < k → f1 j = hi 14 j ∧ f2 j = hi 15 j ∧ f3' j = hi 16 j) → 16 - k < fu2 → V eX1_copy none KW 2 [(0, vR 21), (1, vR 13), (2, vI ((k : Nat) : Int))] [] (upR (upR (upR (upR hi 21 (hi 21)) 24 (f3')) 23 f2) 22 f1) hl 0 0 Q := by
    intro fu2
    induction fu2 with
    | zero => intro k f1 f2 f3' hk hC hm2; exact absurd hm2 (Nat.not_lt_zero _)
    | succ fu2 ih2 =>
      intro k f1 f2 f3' hk hC hm2
      refine V.iload_n (pc := 2) 2 dX1_copy_2 rfl ?_
      refine V.bipush (pc := 3) (z := 16) dX1_copy_3 (by decide +kernel) ⟨by decide, by decide⟩ ?_
      refine V.icmp_ge (pc := 5) 50 dX1_copy_5 (by decide) (fun h5 => ?_) (fun h5 => ?_)
      · skip
        refine V.aload_n (pc := 50) 0 dX1_copy_50 rfl ?_
        refine V.aload_n (pc := 51) 1 dX1_copy_51 rfl ?_
        refine V.gi (pc := 52) 1 3 (hi 13 3) flX1_21 dX1_copy_52 (kS_13) (by decide) (by decide) rfl (rfl) ?_
        refine V.pi (pc := 55) (hi' := (upR (upR (upR (upR hi 21 (updF (hi 21) 3 (hi 13 3))) 24 (f3')) 23 f2) 22 f1)) 1 3 flX1_21 dX1_copy_55 (kS_21) (by decide) (by decide) rfl rfl (us (by decide) (us (by decide) (us (by decide) u1))) ?_
        refine V.vret (pc := 58) dX1_copy_58 rfl ?_
        exact hq _ _ _ (fun j hj => hC j (by omega))
      · skip
        refine V.aload_n (pc := 8) 0 dX1_copy_8 rfl ?_
        refine V.gr (pc := 9) 1 0 22 flX1_9 dX1_copy_9 (kS_21) (by decide) (by decide) rfl (kR_21_0) ?_
        refine V.iload_n (pc := 12) 2 dX1_copy_12 rfl ?_
        refine V.aload_n (pc := 13) 1 dX1_copy_13 rfl ?_
        refine V.gr (pc := 14) 1 0 14 flX1_9 dX1_copy_14 (kS_13) (by decide) (by decide) rfl (kR_13_0) ?_
        refine V.iload_n (pc := 17) 2 dX1_copy_17 rfl ?_
        refine V.ia (pc := 18) (len := 16) k (hi 14 k) dX1_copy_18 (kS_14) (rfl) (by omega) (rfl) ?_
        refine V.is (pc := 19) (len := 16) (hi' := (upR (upR (upR (upR hi 21 (hi 21)) 24 (f3')) 23 f2) 22 (updF f1 k (hi 14 k)))) k dX1_copy_19 (kS_22) (rfl) (by omega) u1 ?_
        refine V.aload_n (pc := 20) 0 dX1_copy_20 rfl ?_
        refine V.gr (pc := 21) 1 1 23 flX1_15 dX1_copy_21 (kS_21) (by decide) (by decide) rfl (kR_21_1) ?_
        refine V.iload_n (pc := 24) 2 dX1_copy_24 rfl ?_
        refine V.aload_n (pc := 25) 1 dX1_copy_25 rfl ?_
        refine V.gr (pc := 26) 1 1 15 flX1_15 dX1_copy_26 (kS_13) (by decide) (by decide) rfl (kR_13_1) ?_
        refine V.iload_n (pc := 29) 2 dX1_copy_29 rfl ?_
        refine V.ia (pc := 30) (len := 16) k (hi 15 k) dX1_copy_30 (kS_15) (rfl) (by omega) (rfl) ?_
        refine V.is (pc := 31) (len := 16) (hi' := (upR (upR (upR (upR hi 21 (hi 21)) 24 (f3')) 23 (updF f2 k (hi 15 k))) 22 (updF f1 k (hi 14 k)))) k dX1_copy_31 (kS_23) (rfl) (by omega) (us (by decide) u1) ?_
        refine V.aload_n (pc := 32) 0 dX1_copy_32 rfl ?_
        refine V.gr (pc := 33) 1 2 24 flX1_18 dX1_copy_33 (kS_21) (by decide) (by decide) rfl (kR_21_2) ?_
        refine V.iload_n (pc := 36) 2 dX1_copy_36 rfl ?_
        refine V.aload_n (pc := 37) 1 dX1_copy_37 rfl ?_
        refine V.gr (pc := 38) 1 2 16 flX1_18 dX1_copy_38 (kS_13) (by decide) (by decide) rfl (kR_13_2) ?_
        refine V.iload_n (pc := 41) 2 dX1_copy_41 rfl ?_
        refine V.ia (pc := 42) (len := 16) k (hi 16 k) dX1_copy_42 (kS_16) (rfl) (by omega) (rfl) ?_
        refine V.is (pc := 43) (len := 16) (hi' := (upR (upR (upR (upR hi 21 (hi 21)) 24 (updF (f3') k (hi 16 k))) 23 (updF f2 k (hi 15 k))) 22 (updF f1 k (hi 14 k)))) k dX1_copy_43 (kS_24) (rfl) (by omega) (us (by decide) (us (by decide) u1)) ?_
        refine V.iinc (pc := 44) (r := ((k + 1 : Nat) : Int)) 2 dX1_copy_44 rfl (w32_of (by omega) (by omega) (by omega)) (by decide) (ls' := [(2, vI ((k + 1 : Nat) : Int)), (0, vR 21), (1, vR 13)]) rfl ?_
        refine V.goto (pc := 47) 2 dX1_copy_47 (by decide) ?_
        refine V.locs [1, 2, 0] (ls' := [(0, vR 21), (1, vR 13), (2, vI ((k + 1 : Nat) : Int))]) rfl ?_
        exact ih2 (k + 1) (updF f1 k (hi 14 k)) (updF f2 k (hi 15 k)) (updF (f3') k (hi 16 k)) (by omega) (fun j hj => by by_cases e : j = k; { subst e; rw [updF_s, updF_s, updF_s]; exact ⟨rfl, rfl, rfl⟩ }; { rw [updF_n e, updF_n e, updF_n e]; exact hC j (by omega) }) (by omega)
  refine V.locs [1, 2, 0] (ls' := [(0, vR 21), (1, vR 13), (2, vI 0)]) rfl ?_
  exact lp2 _ 0 (hi 22) (hi 23) (hi 24) (by omega) (fun j hj => absurd hj (Nat.not_lt_zero j)) (Nat.lt_succ_self _)

set_option maxRecDepth 100000 in
theorem c_X1_copy_28_13 (hi hl : HI) (Q : QT) (hq : ∀ f1 f2 f3', (∀ j, j < 16 → f1 j = hi 14 j ∧ f2 j = hi 15 j ∧ f3' j = hi 16 j) → Q none KW (upR (upR (upR (upR hi 28 (updF (hi 28) 3 (hi 13 3))) 31 f3') 30 f2) 29 f1) hl) : Con eX1_copy [vR 28, vR 13] KW hi hl Q := by
  refine Con.ofV (by decide +kernel) (Nat.le_of_ble_eq_true rfl) ?_
  show V eX1_copy none KW 0 [(0, vR 28), (1, vR 13)] [] hi hl 0 0 Q
  refine V.hieq (hi' := (upR (upR (upR (upR hi 28 (hi 28)) 31 (hi 31)) 30 (hi 30)) 29 (hi 29))) (by rw [upR_id, upR_id, upR_id, upR_id]) ?_
  refine V.iconst (pc := 0) (z := 0) dX1_copy_0 rfl ⟨by decide, by decide⟩ ?_
  refine V.istore_n (pc := 1) (i := 2) dX1_copy_1 rfl (by decide) (ls' := [(2, vI 0), (0, vR 28), (1, vR 13)]) rfl ?_
  have lp2 : ∀ (fu2 : Nat) (k : Nat) (f1 : Nat → Int) (f2 : Nat → Int) (f3' : Nat → Int), (k ≤ 16) → (∀ j, j < k → f1 j = hi 14 j ∧ f2 j = hi 15 j ∧ f3' j = hi 16 j) → 16 - k < fu2 → V eX1_copy none KW 2 [(0, vR 28), (1, vR 13), (2, vI ((k : Nat) : Int))] [] (upR (upR (upR (upR hi 28 (hi 28)) 31 (f3')) 30 f2) 29 f1) hl 0 0 Q := by
    intro fu2
    induction fu2 with
    | zero => intro k f1 f2 f3' hk hC hm2; exact absurd hm2 (Nat.not_lt_zero _)
    | succ fu2 ih2 =>
      intro k f1 f2 f3' hk hC hm2
      refine V.iload_n (pc := 2) 2 dX1_copy_2 rfl ?_
      refine V.bipush (pc := 3) (z := 16) dX1_copy_3 (by decide +kernel) ⟨by decide, by decide⟩ ?_
      refine V.icmp_ge (pc := 5) 50 dX1_copy_5 (by decide) (fun h5 => ?_) (fun h5 => ?_)
      · skip
        refine V.aload_n (pc := 50) 0 dX1_copy_50 rfl ?_
        refine V.aload_n (pc := 51) 1 dX1_copy_51 rfl ?_
        refine V.gi (pc := 52) 1 3 (hi 13 3) flX1_21 dX1_copy_52 (kS_13) (by decide) (by decide) rfl (rfl) ?_
        refine V.pi (pc := 55) (hi' := (upR (upR (upR (upR hi 28 (updF (hi 28) 3 (hi 13 3))) 31 (f3')) 30 f2) 29 f1)) 1 3 flX1_21 dX1_copy_55 (kS_28) (by decide) (by decide) rfl rfl (us (by decide) (us (by decide) (us (by decide) u1))) ?_
        refine V.vret (pc := 58) dX1_copy_58 rfl ?_
        exact hq _ _ _ (fun j hj => hC j (by omega))
      · skip
        refine V.aload_n (pc := 8) 0 dX1_copy_8 rfl ?_
        refine V.gr (pc := 9) 1 0 29 flX1_9 dX1_copy_9 (kS_28) (by decide) (by decide) rfl (kR_28_0) ?_
        refine V.iload_n (pc := 12) 2 dX1_copy_12 rfl ?_
        refine V.aload_n (pc := 13) 1 dX1_copy_13 rfl ?_
        refine V.gr (pc := 14) 1 0 14 flX1_9 dX1_copy_14 (kS_13) (by decide) (by decide) rfl (kR_13_0) ?_
        refine V.iload_n (pc := 17) 2 dX1_copy_17 rfl ?_
        refine V.ia (pc := 18) (len := 16) k (hi 14 k) dX1_copy_18 (kS_14) (rfl) (by omega) (rfl) ?_
        refine V.is (pc := 19) (len := 16) (hi' := (upR (upR (upR (upR hi 28 (hi 28)) 31 (f3')) 30 f2) 29 (updF f1 k (hi 14 k)))) k dX1_copy_19 (kS_29) (rfl) (by omega) u1 ?_
        refine V.aload_n (pc := 20) 0 dX1_copy_20 rfl ?_
        refine V.gr (pc := 21) 1 1 30 flX1_15 dX1_copy_21 (kS_28) (by decide) (by decide) rfl (kR_28_1) ?_
        refine V.iload_n (pc := 24) 2 dX1_copy_24 rfl ?_
        refine V.aload_n (pc := 25) 1 dX1_copy_25 rfl ?_
        refine V.gr (pc := 26) 1 1 15 flX1_15 dX1_copy_26 (kS_13) (by decide) (by decide) rfl (kR_13_1) ?_
        refine V.iload_n (pc := 29) 2 dX1_copy_29 rfl ?_
        refine V.ia (pc := 30) (len := 16) k (hi 15 k) dX1_copy_30 (kS_15) (rfl) (by omega) (rfl) ?_
        refine V.is (pc := 31) (len := 16) (hi' := (upR (upR (upR (upR hi 28 (hi 28)) 31 (f3')) 30 (updF f2 k (hi 15 k))) 29 (updF f1 k (hi 14 k)))) k dX1_copy_31 (kS_30) (rfl) (by omega) (us (by decide) u1) ?_
        refine V.aload_n (pc := 32) 0 dX1_copy_32 rfl ?_
        refine V.gr (pc := 33) 1 2 31 flX1_18 dX1_copy_33 (kS_28) (by decide) (by decide) rfl (kR_28_2) ?_
        refine V.iload_n (pc := 36) 2 dX1_copy_36 rfl ?_
        refine V.aload_n (pc := 37) 1 dX1_copy_37 rfl ?_
        refine V.gr (pc := 38) 1 2 16 flX1_18 dX1_copy_38 (kS_13) (by decide) (by decide) rfl (kR_13_2) ?_
        refine V.iload_n (pc := 41) 2 dX1_copy_41 rfl ?_
        refine V.ia (pc := 42) (len := 16) k (hi 16 k) dX1_copy_42 (kS_16) (rfl) (by omega) (rfl) ?_
        refine V.is (pc := 43) (len := 16) (hi' := (upR (upR (upR (upR hi 28 (hi 28)) 31 (updF (f3') k (hi 16 k))) 30 (updF f2 k (hi 15 k))) 29 (updF f1 k (hi 14 k)))) k dX1_copy_43 (kS_31) (rfl) (by omega) (us (by decide) (us (by decide) u1)) ?_
        refine V.iinc (pc := 44) (r := ((k + 1 : Nat) : Int)) 2 dX1_copy_44 rfl (w32_of (by omega) (by omega) (by omega)) (by decide) (ls' := [(2, vI ((k + 1 : Nat) : Int)), (0, vR 28), (1, vR 13)]) rfl ?_
        refine V.goto (pc := 47) 2 dX1_copy_47 (by decide) ?_
        refine V.locs [1, 2, 0] (ls' := [(0, vR 28), (1, vR 13), (2, vI ((k + 1 : Nat) : Int))]) rfl ?_
        exact ih2 (k + 1) (updF f1 k (hi 14 k)) (updF f2 k (hi 15 k)) (updF (f3') k (hi 16 k)) (by omega) (fun j hj => by by_cases e : j = k; { subst e; rw [updF_s, updF_s, updF_s]; exact ⟨rfl, rfl, rfl⟩ }; { rw [updF_n e, updF_n e, updF_n e]; exact hC j (by omega) }) (by omega)
  refine V.locs [1, 2, 0] (ls' := [(0, vR 28), (1, vR 13), (2, vI 0)]) rfl ?_
  exact lp2 _ 0 (hi 29) (hi 30) (hi 31) (by omega) (fun j hj => absurd hj (Nat.not_lt_zero j)) (Nat.lt_succ_self _)

set_option maxRecDepth 100000 in
theorem c_X1_copy_13_21 (hi hl : HI) (Q : QT) (hq : ∀ f1 f2 f3', (∀ j, j < 16 → f1 j = hi 22 j ∧ f2 j = hi 23 j ∧ f3' j = hi 24 j) → Q none KW (upR (upR (upR (upR hi 13 (updF (hi 13) 3 (hi 21 3))) 16 f3') 15 f2) 14 f1) hl) : Con eX1_copy [vR 13, vR 21] KW hi hl Q := by
  refine Con.ofV (by decide +kernel) (Nat.le_of_ble_eq_true rfl) ?_
  show V eX1_copy none KW 0 [(0, vR 13), (1, vR 21)] [] hi hl 0 0 Q
  refine V.hieq (hi' := (upR (upR (upR (upR hi 13 (hi 13)) 16 (hi 16)) 15 (hi 15)) 14 (hi 14))) (by rw [upR_id, upR_id, upR_id, upR_id]) ?_
  refine V.iconst (pc := 0) (z := 0) dX1_copy_0 rfl ⟨by decide, by decide⟩ ?_
  refine V.istore_n (pc := 1) (i := 2) dX1_copy_1 rfl (by decide) (ls' := [(2, vI 0), (0, vR 13), (1, vR 21)]) rfl ?_
  have lp2 : ∀ (fu2 : Nat) (k : Nat) (f1 : Nat → Int) (f2 : Nat → Int) (f3' : Nat → Int), (k ≤ 16) → (∀ j, j < k → f1 j = hi 22 j ∧ f2 j = hi 23 j ∧ f3' j = hi 24 j) → 16 - k < fu2 → V eX1_copy none KW 2 [(0, vR 13), (1, vR 21), (2, vI ((k : Nat) : Int))] [] (upR (upR (upR (upR hi 13 (hi 13)) 16 (f3')) 15 f2) 14 f1) hl 0 0 Q := by
    intro fu2
    induction fu2 with
    | zero => intro k f1 f2 f3' hk hC hm2; exact absurd hm2 (Nat.not_lt_zero _)
    | succ fu2 ih2 =>
      intro k f1 f2 f3' hk hC hm2
      refine V.iload_n (pc := 2) 2 dX1_copy_2 rfl ?_
      refine V.bipush (pc := 3) (z := 16) dX1_copy_3 (by decide +kernel) ⟨by decide, by decide⟩ ?_
      refine V.icmp_ge (pc := 5) 50 dX1_copy_5 (by decide) (fun h5 => ?_) (fun h5 => ?_)
      · skip
        refine V.aload_n (pc := 50) 0 dX1_copy_50 rfl ?_
        refine V.aload_n (pc := 51) 1 dX1_copy_51 rfl ?_
        refine V.gi (pc := 52) 1 3 (hi 21 3) flX1_21 dX1_copy_52 (kS_21) (by decide) (by decide) rfl (rfl) ?_
        refine V.pi (pc := 55) (hi' := (upR (upR (upR (upR hi 13 (updF (hi 13) 3 (hi 21 3))) 16 (f3')) 15 f2) 14 f1)) 1 3 flX1_21 dX1_copy_55 (kS_13) (by decide) (by decide) rfl rfl (us (by decide) (us (by decide) (us (by decide) u1))) ?_
        refine V.vret (pc := 58) dX1_copy_58 rfl ?_
        exact hq _ _ _ (fun j hj => hC j (by omega))
      · skip
        refine V.aload_n (pc := 8) 0 dX1_copy_8 rfl ?_
        refine V.gr (pc := 9) 1 0 14 flX1_9 dX1_copy_9 (kS_13) (by decide) (by decide) rfl (kR_13_0) ?_
        refine V.iload_n (pc := 12) 2 dX1_copy_12 rfl ?_
        refine V.aload_n (pc := 13) 1 dX1_copy_13 rfl ?_
        refine V.gr (pc := 14) 1 0 22 flX1_9 dX1_copy_14 (kS_21) (by decide) (by decide) rfl (kR_21_0) ?_
        refine V.iload_n (pc := 17) 2 dX1_copy_17 rfl ?_
        refine V.ia (pc := 18) (len := 16) k (hi 22 k) dX1_copy_18 (kS_22) (rfl) (by omega) (rfl) ?_
        refine V.is (pc := 19) (len := 16) (hi' := (upR (upR (upR (upR hi 13 (hi 13)) 16 (f3')) 15 f2) 14 (updF f1 k (hi 22 k)))) k dX1_copy_19 (kS_14) (rfl) (by omega) u1 ?_
        refine V.aload_n (pc := 20) 0 dX1_copy_20 rfl ?_
        refine V.gr (pc := 21) 1 1 15 flX1_15 dX1_copy_21 (kS_13) (by decide) (by decide) rfl (kR_13_1) ?_
        refine V.iload_n (pc := 24) 2 dX1_copy_24 rfl ?_
        refine V.aload_n (pc := 25) 1 dX1_copy_25 rfl ?_
        refine V.gr (pc := 26) 1 1 23 flX1_15 dX1_copy_26 (kS_21) (by decide) (by decide) rfl (kR_21_1) ?_
        refine V.iload_n (pc := 29) 2 dX1_copy_29 rfl ?_
        refine V.ia (pc := 30) (len := 16) k (hi 23 k) dX1_copy_30 (kS_23) (rfl) (by omega) (rfl) ?_
        refine V.is (pc := 31) (len := 16) (hi' := (upR (upR (upR (upR hi 13 (hi 13)) 16 (f3')) 15 (updF f2 k (hi 23 k))) 14 (updF f1 k (hi 22 k)))) k dX1_copy_31 (kS_15) (rfl) (by omega) (us (by decide) u1) ?_
        refine V.aload_n (pc := 32) 0 dX1_copy_32 rfl ?_
        refine V.gr (pc := 33) 1 2 16 flX1_18 dX1_copy_33 (kS_13) (by decide) (by decide) rfl (kR_13_2) ?_
        refine V.iload_n (pc := 36) 2 dX1_copy_36 rfl ?_
        refine V.aload_n (pc := 37) 1 dX1_copy_37 rfl ?_
        refine V.gr (pc := 38) 1 2 24 flX1_18 dX1_copy_38 (kS_21) (by decide) (by decide) rfl (kR_21_2) ?_
        refine V.iload_n (pc := 41) 2 dX1_copy_41 rfl ?_
        refine V.ia (pc := 42) (len := 16) k (hi 24 k) dX1_copy_42 (kS_24) (rfl) (by omega) (rfl) ?_
        refine V.is (pc := 43) (len := 16) (hi' := (upR (upR (upR (upR hi 13 (hi 13)) 16 (updF (f3') k (hi 24 k))) 15 (updF f2 k (hi 23 k))) 14 (updF f1 k (hi 22 k)))) k dX1_copy_43 (kS_16) (rfl) (by omega) (us (by decide) (us (by decide) u1)) ?_
        refine V.iinc (pc := 44) (r := ((k + 1 : Nat) : Int)) 2 dX1_copy_44 rfl (w32_of (by omega) (by omega) (by omega)) (by decide) (ls' := [(2, vI ((k + 1 : Nat) : Int)), (0, vR 13), (1, vR 21)]) rfl ?_
        refine V.goto (pc := 47) 2 dX1_copy_47 (by decide) ?_
        refine V.locs [1, 2, 0] (ls' := [(0, vR 13), (1, vR 21), (2, vI ((k + 1 : Nat) : Int))]) rfl ?_
        exact ih2 (k + 1) (updF f1 k (hi 22 k)) (updF f2 k (hi 23 k)) (updF (f3') k (hi 24 k)) (by omega) (fun j hj => by by_cases e : j = k; { subst e; rw [updF_s, updF_s, updF_s]; exact ⟨rfl, rfl, rfl⟩ }; { rw [updF_n e, updF_n e, updF_n e]; exact hC j (by omega) }) (by omega)
  refine V.locs [1, 2, 0] (ls' := [(0, vR 13), (1, vR 21), (2, vI 0)]) rfl ?_
  exact lp2 _ 0 (hi 14) (hi 15) (hi 16) (by omega) (fun j hj => absurd hj (Nat.not_lt_zero j)) (Nat.lt_succ_self _)

set_option maxRecDepth 100000 in
theorem c_X1_copy_13_28 (hi hl : HI) (Q : QT) (hq : ∀ f1 f2 f3', (∀ j, j < 16 → f1 j = hi 29 j ∧ f2 j = hi 30 j ∧ f3' j = hi 31 j) → Q none KW (upR (upR (upR (upR hi 13 (updF (hi 13) 3 (hi 28 3))) 16 f3') 15 f2) 14 f1) hl) : Con eX1_copy [vR 13, vR 28] KW hi hl Q := by
  refine Con.ofV (by decide +kernel) (Nat.le_of_ble_eq_true rfl) ?_
  show V eX1_copy none KW 0 [(0, vR 13), (1, vR 28)] [] hi hl 0 0 Q
  refine V.hieq (hi' := (upR (upR (upR (upR hi 13 (hi 13)) 16 (hi 16)) 15 (hi 15)) 14 (hi 14))) (by rw [upR_id, upR_id, upR_id, upR_id]) ?_
  refine V.iconst (pc := 0) (z := 0) dX1_copy_0 rfl ⟨by decide, by decide⟩ ?_
  refine V.istore_n (pc := 1) (i := 2) dX1_copy_1 rfl (by decide) (ls' := [(2, vI 0), (0, vR 13), (1, vR 28)]) rfl ?_
  have lp2 : ∀ (fu2 : Nat) (k : Nat) (f1 : Nat → Int) (f2 : Nat → Int) (f3' : Nat → Int), (k ≤ 16) → (∀ j, j < k → f1 j = hi 29 j ∧ f2 j = hi 30 j ∧ f3' j = hi 31 j) → 16 - k < fu2 → V eX1_copy none KW 2 [(0, vR 13), (1, vR 28), (2, vI ((k : Nat) : Int))] [] (upR (upR (upR (upR hi 13 (hi 13)) 16 (f3')) 15 f2) 14 f1) hl 0 0 Q := by
    intro fu2
    induction fu2 with
    | zero => intro k f1 f2 f3' hk hC hm2; exact absurd hm2 (Nat.not_lt_zero _)
    | succ fu2 ih2 =>
      intro k f1 f2 f3' hk hC hm2
      refine V.iload_n (pc := 2) 2 dX1_copy_2 rfl ?_
      refine V.bipush (pc := 3) (z := 16) dX1_copy_3 (by decide +kernel) ⟨by decide, by decide⟩ ?_
      refine V.icmp_ge (pc := 5) 50 dX1_copy_5 (by decide) (fun h5 => ?_) (fun h5 => ?_)
      · skip
        refine V.aload_n (pc := 50) 0 dX1_copy_50 rfl ?_
        refine V.aload_n (pc := 51) 1 dX1_copy_51 rfl ?_
        refine V.gi (pc := 52) 1 3 (hi 28 3) flX1_21 dX1_copy_52 (kS_28) (by decide) (by decide) rfl (rfl) ?_
        refine V.pi (pc := 55) (hi' := (upR (upR (upR (upR hi 13 (updF (hi 13) 3 (hi 28 3))) 16 (f3')) 15 f2) 14 f1)) 1 3 flX1_21 dX1_copy_55 (kS_13) (by decide) (by decide) rfl rfl (us (by decide) (us (by decide) (us (by decide) u1))) ?_
        refine V.vret (pc := 58) dX1_copy_58 rfl ?_
        exact hq _ _ _ (fun j hj => hC j (by omega))
      · skip
        refine V.aload_n (pc := 8) 0 dX1_copy_8 rfl ?_
        refine V.gr (pc := 9) 1 0 14 flX1_9 dX1_copy_9 (kS_13) (by decide) (by decide) rfl (kR_13_0) ?_
        refine V.iload_n (pc := 12) 2 dX1_copy_12 rfl ?_
        refine V.aload_n (pc := 13) 1 dX1_copy_13 rfl ?_
        refine V.gr (pc := 14) 1 0 29 flX1_9 dX1_copy_14 (kS_28) (by decide) (by decide) rfl (kR_28_0) ?_
        refine V.iload_n (pc := 17) 2 dX1_copy_17 rfl ?_
        refine V.ia (pc := 18) (len := 16) k (hi 29 k) dX1_copy_18 (kS_29) (rfl) (by omega) (rfl) ?_
        refine V.is (pc := 19) (len := 16) (hi' := (upR (upR (upR (upR hi 13 (hi 13)) 16 (f3')) 15 f2) 14 (updF f1 k (hi 29 k)))) k dX1_copy_19 (kS_14) (rfl) (by omega) u1 ?_
        refine V.aload_n (pc := 20) 0 dX1_copy_20 rfl ?_
        refine V.gr (pc := 21) 1 1 15 flX1_15 dX1_copy_21 (kS_13) (by decide) (by decide) rfl (kR_13_1) ?_
        refine V.iload_n (pc := 24) 2 dX1_copy_24 rfl ?_
        refine V.aload_n (pc := 25) 1 dX1_copy_25 rfl ?_
        refine V.gr (pc := 26) 1 1 30 flX1_15 dX1_copy_26 (kS_28) (by decide) (by decide) rfl (kR_28_1) ?_
        refine V.iload_n (pc := 29) 2 dX1_copy_29 rfl ?_
        refine V.ia (pc := 30) (len := 16) k (hi 30 k) dX1_copy_30 (kS_30) (rfl) (by omega) (rfl) ?_
        refine V.is (pc := 31) (len := 16) (hi' := (upR (upR (upR (upR hi 13 (hi 13)) 16 (f3')) 15 (updF f2 k (hi 30 k))) 14 (updF f1 k (hi 29 k)))) k dX1_copy_31 (kS_15) (rfl) (by omega) (us (by decide) u1) ?_
        refine V.aload_n (pc := 32) 0 dX1_copy_32 rfl ?_
        refine V.gr (pc := 33) 1 2 16 flX1_18 dX1_copy_33 (kS_13) (by decide) (by decide) rfl (kR_13_2) ?_
        refine V.iload_n (pc := 36) 2 dX1_copy_36 rfl ?_
        refine V.aload_n (pc := 37) 1 dX1_copy_37 rfl ?_
        refine V.gr (pc := 38) 1 2 31 flX1_18 dX1_copy_38 (kS_28) (by decide) (by decide) rfl (kR_28_2) ?_
        refine V.iload_n (pc := 41) 2 dX1_copy_41 rfl ?_
        refine V.ia (pc := 42) (len := 16) k (hi 31 k) dX1_copy_42 (kS_31) (rfl) (by omega) (rfl) ?_
        refine V.is (pc := 43) (len := 16) (hi' := (upR (upR (upR (upR hi 13 (hi 13)) 16 (updF (f3') k (hi 31 k))) 15 (updF f2 k (hi 30 k))) 14 (updF f1 k (hi 29 k)))) k dX1_copy_43 (kS_16) (rfl) (by omega) (us (by decide) (us (by decide) u1)) ?_
        refine V.iinc (pc := 44) (r := ((k + 1 : Nat) : Int)) 2 dX1_copy_44 rfl (w32_of (by omega) (by omega) (by omega)) (by decide) (ls' := [(2, vI ((k + 1 : Nat) : Int)), (0, vR 13), (1, vR 28)]) rfl ?_
        refine V.goto (pc := 47) 2 dX1_copy_47 (by decide) ?_
        refine V.locs [1, 2, 0] (ls' := [(0, vR 13), (1, vR 28), (2, vI ((k + 1 : Nat) : Int))]) rfl ?_
        exact ih2 (k + 1) (updF f1 k (hi 29 k)) (updF f2 k (hi 30 k)) (updF (f3') k (hi 31 k)) (by omega) (fun j hj => by by_cases e : j = k; { subst e; rw [updF_s, updF_s, updF_s]; exact ⟨rfl, rfl, rfl⟩ }; { rw [updF_n e, updF_n e, updF_n e]; exact hC j (by omega) }) (by omega)
  refine V.locs [1, 2, 0] (ls' := [(0, vR 13), (1, vR 28), (2, vI 0)]) rfl ?_
  exact lp2 _ 0 (hi 14) (hi 15) (hi 16) (by omega) (fun j hj => absurd hj (Nat.not_lt_zero j)) (Nat.lt_succ_self _)

set_option maxRecDepth 100000 in
theorem c_X0_copy_18_10 (hi hl : HI) (Q : QT) (hq : ∀ s1 s2 d1 d2 d3, (∀ j, j < 6 → s1 j = hi 11 j ∧ s2 j = hi 12 j) → (∀ j, j < 16 → d1 j = hi 14 j ∧ d2 j = hi 15 j ∧ d3 j = hi 16 j) → Q none KW (upR (upR (upR (upR (upR (upR (upR hi 21 (updF (hi 21) 3 (hi 13 3))) 24 d3) 23 d2) 22 d1) 18 (updF (updF (hi 18) 3 (hi 10 3)) 4 (hi 10 4))) 20 s2) 19 s1) hl) : Con eX0_copy [vR 18, vR 10] KW hi hl Q := by
  refine Con.ofV (by decide +kernel) (Nat.le_of_ble_eq_true rfl) ?_
  show V eX0_copy none KW 0 [(0, vR 18), (1, vR 10)] [] hi hl 0 0 Q
  refine V.hieq (hi' := (upR (upR (upR (upR (upR (upR (upR hi 21 (hi 21)) 24 (hi 24)) 23 (hi 23)) 22 (hi 22)) 18 (hi 18)) 20 (hi 20)) 19 (hi 19))) (by rw [upR_id, upR_id, upR_id, upR_id, upR_id, upR_id, upR_id]) ?_
  refine V.iconst (pc := 0) (z := 0) dX0_copy_0 rfl ⟨by decide, by decide⟩ ?_
  refine V.istore_n (pc := 1) (i := 2) dX0_copy_1 rfl (by decide) (ls' := [(2, vI 0), (0, vR 18), (1, vR 10)]) rfl ?_
  have lp2 : ∀ (fu2 : Nat) (k : Nat) (f1 : Nat → Int) (f2 : Nat → Int), (k ≤ 6) → (∀ j, j < k → f1 j = hi 11 j ∧ f2 j = hi 12 j) → 6 - k < fu2 → V eX0_copy none KW 2 [(0, vR 18), (1, vR 10), (2, vI ((k : Nat) : Int))] [] (upR (upR (upR (upR (upR (upR (upR hi 21 (hi 21)) 24 (hi 24)) 23 (hi 23)) 22 (hi 22)) 18 (hi 18)) 20 f2) 19 f1) hl 0 0 Q := by
    intro fu2
    induction fu2 with
    | zero => intro k f1 f2 hk hC hm2; exact absurd hm2 (Nat.not_lt_zero _)
    | succ fu2 ih2 =>
      intro k f1 f2 hk hC hm2
      refine V.iload_n (pc := 2) 2 dX0_copy_2 rfl ?_
      refine V.bipush (pc := 3) (z := 6) dX0_copy_3 (by decide +kernel) ⟨by decide, by decide⟩ ?_
      refine V.icmp_ge (pc := 5) 38 dX0_copy_5 (by decide) (fun h5 => ?_) (fun h5 => ?_)
      · skip
        refine V.aload_n (pc := 38) 0 dX0_copy_38 rfl ?_
        refine V.gr (pc := 39) 0 2 21 flX0_21 dX0_copy_39 (kS_18) (by decide) (by decide) rfl (kR_18_2) ?_
        refine V.aload_n (pc := 42) 1 dX0_copy_42 rfl ?_
        refine V.gr (pc := 43) 0 2 13 flX0_21 dX0_copy_43 (kS_10) (by decide) (by decide) rfl (kR_10_2) ?_
        refine V.callV (pc := 46) (e1 := eX1_copy) (o := 21) (c := 1) 1 [vR 13] [] mfX1_copy slX1_copy mlX0_32 dX0_copy_46 (kS_21) (by decide) rfl rfl rfl (Nat.le_of_ble_eq_true rfl) ⟨by decide, by decide, by decide, by decide⟩ ?_
        refine c_X1_copy_21_13 (upR (upR (upR (upR (upR (upR (upR hi 21 (hi 21)) 24 (hi 24)) 23 (hi 23)) 22 (hi 22)) 18 (hi 18)) 20 f2) 19 f1) hl _ (fun d1 d2 d3 hDc => ?_)
        refine V.qV (pc := 46) rfl rfl ?_
        refine V.hieq (hi' := (upR (upR (upR (upR (upR (upR (upR hi 21 (updF (hi 21) 3 (hi 13 3))) 24 d3) 23 d2) 22 d1) 18 (hi 18)) 20 f2) 19 f1)) ((upR_c ((upR_c ((upR_c (rs (by decide) (rs (by decide) (rs (by decide) (rs (by decide) (rs (by decide) (rs (by decide) r1))))))).trans (rs (by decide) (rs (by decide) (rs (by decide) (rs (by decide) (rs (by decide) r1))))))).trans (rs (by decide) (rs (by decide) (rs (by decide) (rs (by decide) r1)))))).trans (rs (by decide) (rs (by decide) (rs (by decide) r1)))) ?_
        refine V.aload_n (pc := 49) 0 dX0_copy_49 rfl ?_
        refine V.aload_n (pc := 50) 1 dX0_copy_50 rfl ?_
        refine V.gi (pc := 51) 0 3 (hi 10 3) flX0_25 dX0_copy_51 (kS_10) (by decide) (by decide) rfl (rfl) ?_
        refine V.pi (pc := 54) (hi' := (upR (upR (upR (upR (upR (upR (upR hi 21 (updF (hi 21) 3 (hi 13 3))) 24 d3) 23 d2) 22 d1) 18 (updF (hi 18) 3 (hi 10 3))) 20 f2) 19 f1)) 0 3 flX0_25 dX0_copy_54 (kS_18) (by decide) (by decide) rfl rfl (us (by decide) (us (by decide) u1)) ?_
        refine V.aload_n (pc := 57) 0 dX0_copy_57 rfl ?_
        refine V.aload_n (pc := 58) 1 dX0_copy_58 rfl ?_
        refine V.gi (pc := 59) 0 4 (hi 10 4) flX0_29 dX0_copy_59 (kS_10) (by decide) (by decide) rfl (rfl) ?_
        refine V.pi (pc := 62) (hi' := (upR (upR (upR (upR (upR (upR (upR hi 21 (updF (hi 21) 3 (hi 13 3))) 24 d3) 23 d2) 22 d1) 18 (updF (updF (hi 18) 3 (hi 10 3)) 4 (hi 10 4))) 20 f2) 19 f1)) 0 4 flX0_29 dX0_copy_62 (kS_18) (by decide) (by decide) rfl rfl (us (by decide) (us (by decide) u1)) ?_
        refine V.vret (pc := 65) dX0_copy_65 rfl ?_
        exact hq _ _ _ _ _ (fun j hj => hC j (by omega)) hDc
      · skip
        refine V.aload_n (pc := 8) 0 dX0_copy_8 rfl ?_
        refine V.gr (pc := 9) 0 0 19 flX0_9 dX0_copy_9 (kS_18) (by decide) (by decide) rfl (kR_18_0) ?_
        refine V.iload_n (pc := 12) 2 dX0_copy_12 rfl ?_
        refine V.aload_n (pc := 13) 1 dX0_copy_13 rfl ?_
        refine V.gr (pc := 14) 0 0 11 flX0_9 dX0_copy_14 (kS_10) (by decide) (by decide) rfl (kR_10_0) ?_
        refine V.iload_n (pc := 17) 2 dX0_copy_17 rfl ?_
        refine V.ia (pc := 18) (len := 6) k (hi 11 k) dX0_copy_18 (kS_11) (rfl) (by omega) (rfl) ?_
        refine V.is (pc := 19) (len := 6) (hi' := (upR (upR (upR (upR (upR (upR (upR hi 21 (hi 21)) 24 (hi 24)) 23 (hi 23)) 22 (hi 22)) 18 (hi 18)) 20 f2) 19 (updF f1 k (hi 11 k)))) k dX0_copy_19 (kS_19) (rfl) (by omega) u1 ?_
        refine V.aload_n (pc := 20) 0 dX0_copy_20 rfl ?_
        refine V.gr (pc := 21) 0 1 20 flX0_15 dX0_copy_21 (kS_18) (by decide) (by decide) rfl (kR_18_1) ?_
        refine V.iload_n (pc := 24) 2 dX0_copy_24 rfl ?_
        refine V.aload_n (pc := 25) 1 dX0_copy_25 rfl ?_
        refine V.gr (pc := 26) 0 1 12 flX0_15 dX0_copy_26 (kS_10) (by decide) (by decide) rfl (kR_10_1) ?_
        refine V.iload_n (pc := 29) 2 dX0_copy_29 rfl ?_
        refine V.ia (pc := 30) (len := 6) k (hi 12 k) dX0_copy_30 (kS_12) (rfl) (by omega) (rfl) ?_
        refine V.is (pc := 31) (len := 6) (hi' := (upR (upR (upR (upR (upR (upR (upR hi 21 (hi 21)) 24 (hi 24)) 23 (hi 23)) 22 (hi 22)) 18 (hi 18)) 20 (updF f2 k (hi 12 k))) 19 (updF f1 k (hi 11 k)))) k dX0_copy_31 (kS_20) (rfl) (by omega) (us (by decide) u1) ?_
        refine V.iinc (pc := 32) (r := ((k + 1 : Nat) : Int)) 2 dX0_copy_32 rfl (w32_of (by omega) (by omega) (by omega)) (by decide) (ls' := [(2, vI ((k + 1 : Nat) : Int)), (0, vR 18), (1, vR 10)]) rfl ?_
        refine V.goto (pc := 35) 2 dX0_copy_35 (by decide) ?_
        refine V.locs [1, 2, 0] (ls' := [(0, vR 18), (1, vR 10), (2, vI ((k + 1 : Nat) : Int))]) rfl ?_
        exact ih2 (k + 1) (updF f1 k (hi 11 k)) (updF f2 k (hi 12 k)) (by omega) (fun j hj => by by_cases e : j = k; { subst e; rw [updF_s, updF_s]; exact ⟨rfl, rfl⟩ }; { rw [updF_n e, updF_n e]; exact hC j (by omega) }) (by omega)
  refine V.locs [1, 2, 0] (ls' := [(0, vR 18), (1, vR 10), (2, vI 0)]) rfl ?_
  exact lp2 _ 0 (hi 19) (hi 20) (by omega) (fun j hj => absurd hj (Nat.not_lt_zero j)) (Nat.lt_succ_self _)

set_option maxRecDepth 100000 in
theorem c_X0_copy_25_10 (hi hl : HI) (Q : QT) (hq : ∀ s1 s2 d1 d2 d3, (∀ j, j < 6 → s1 j = hi 11 j ∧ s2 j = hi 12 j) → (∀ j, j < 16 → d1 j = hi 14 j ∧ d2 j = hi 15 j ∧ d3 j = hi 16 j) → Q none KW (upR (upR (upR (upR (upR (upR (upR hi 28 (updF (hi 28) 3 (hi 13 3))) 31 d3) 30 d2) 29 d1) 25 (updF (updF (hi 25) 3 (hi 10 3)) 4 (hi 10 4))) 27 s2) 26 s1) hl) : Con eX0_copy [vR 25, vR 10] KW hi hl Q := by
  refine Con.ofV (by decide +kernel) (Nat.le_of_ble_eq_true rfl) ?_
  show V eX0_copy none KW 0 [(0, vR 25), (1, vR 10)] [] hi hl 0 0 Q
  refine V.hieq (hi' := (upR (upR (upR (upR (upR (upR (upR hi 28 (hi 28)) 31 (hi 31)) 30 (hi 30)) 29 (hi 29)) 25 (hi 25)) 27 (hi 27)) 26 (hi 26))) (by rw [upR_id, upR_id, upR_id, upR_id, upR_id, upR_id, upR_id]) ?_
  refine V.iconst (pc := 0) (z := 0) dX0_copy_0 rfl ⟨by decide, by decide⟩ ?_
  refine V.istore_n (pc := 1) (i := 2) dX0_copy_1 rfl (by decide) (ls' := [(2, vI 0), (0, vR 25), (1, vR 10)]) rfl ?_
  have lp2 : ∀ (fu2 : Nat) (k : Nat) (f1 : Nat → Int) (f2 : Nat → Int), (k ≤ 6) → (∀ j, j < k → f1 j = hi 11 j ∧ f2 j = hi 12 j) → 6 - k < fu2 → V eX0_copy none KW 2 [(0, vR 25), (1, vR 10), (2, vI ((k : Nat) : Int))] [] (upR (upR (upR (upR (upR (upR (upR hi 28 (hi 28)) 31 (hi 31)) 30 (hi 30)) 29 (hi 29)) 25 (hi 25)) 27 f2) 26 f1) hl 0 0 Q := by
    intro fu2
    induction fu2 with
    | zero => intro k f1 f2 hk hC hm2; exact absurd hm2 (Nat.not_lt_zero _)
    | succ fu2 ih2 =>
      intro k f1 f2 hk hC hm2
      refine V.iload_n (pc := 2) 2 dX0_copy_2 rfl ?_
      refine V.bipush (pc := 3) (z := 6) dX0_copy_3 (by decide +kernel) ⟨by decide, by decide⟩ ?_
      refine V.icmp_ge (pc := 5) 38 dX0_copy_5 (by decide) (fun h5 => ?_) (fun h5 => ?_)
      · skip
        refine V.aload_n (pc := 38) 0 dX0_copy_38 rfl ?_
        refine V.gr (pc := 39) 0 2 28 flX0_21 dX0_copy_39 (kS_25) (by decide) (by decide) rfl (kR_25_2) ?_
        refine V.aload_n (pc := 42) 1 dX0_copy_42 rfl ?_
        refine V.gr (pc := 43) 0 2 13 flX0_21 dX0_copy_43 (kS_10) (by decide) (by decide) rfl (kR_10_2) ?_
        refine V.callV (pc := 46) (e1 := eX1_copy) (o := 28) (c := 1) 1 [vR 13] [] mfX1_copy slX1_copy mlX0_32 dX0_copy_46 (kS_28) (by decide) rfl rfl rfl (Nat.le_of_ble_eq_true rfl) ⟨by decide, by decide, by decide, by decide⟩ ?_
        refine c_X1_copy_28_13 (upR (upR (upR (upR (upR (upR (upR hi 28 (hi 28)) 31 (hi 31)) 30 (hi 30)) 29 (hi 29)) 25 (hi 25)) 27 f2) 26 f1) hl _ (fun d1 d2 d3 hDc => ?_)
        refine V.qV (pc := 46) rfl rfl ?_
        refine V.hieq (hi' := (upR (upR (upR (upR (upR (upR (upR hi 28 (updF (hi 28) 3 (hi 13 3))) 31 d3) 30 d2) 29 d1) 25 (hi 25)) 27 f2) 26 f1)) ((upR_c ((upR_c ((upR_c (rs (by decide) (rs (by decide) (rs (by decide) (rs (by decide) (rs (by decide) (rs (by decide) r1))))))).trans (rs (by decide) (rs (by decide) (rs (by decide) (rs (by decide) (rs (by decide) r1))))))).trans (rs (by decide) (rs (by decide) (rs (by decide) (rs (by decide) r1)))))).trans (rs (by decide) (rs (by decide) (rs (by decide) r1)))) ?_
        refine V.aload_n (pc := 49) 0 dX0_copy_49 rfl ?_
        refine V.aload_n (pc := 50) 1 dX0_copy_50 rfl ?_
        refine V.gi (pc := 51) 0 3 (hi 10 3) flX0_25 dX0_copy_51 (kS_10) (by decide) (by decide) rfl (rfl) ?_
        refine V.pi (pc := 54) (hi' := (upR (upR (upR (upR (upR (upR (upR hi 28 (updF (hi 28) 3 (hi 13 3))) 31 d3) 30 d2) 29 d1) 25 (updF (hi 25) 3 (hi 10 3))) 27 f2) 26 f1)) 0 3 flX0_25 dX0_copy_54 (kS_25) (by decide) (by decide) rfl rfl (us (by decide) (us (by decide) u1)) ?_
        refine V.aload_n (pc := 57) 0 dX0_copy_57 rfl ?_
        refine V.aload_n (pc := 58) 1 dX0_copy_58 rfl ?_
        refine V.gi (pc := 59) 0 4 (hi 10 4) flX0_29 dX0_copy_59 (kS_10) (by decide) (by decide) rfl (rfl) ?_
        refine V.pi (pc := 62) (hi' := (upR (upR (upR (upR (upR (upR (upR hi 28 (updF (hi 28) 3 (hi 13 3))) 31 d3) 30 d2) 29 d1) 25 (updF (updF (hi 25) 3 (hi 10 3)) 4 (hi 10 4))) 27 f2) 26 f1)) 0 4 flX0_29 dX0_copy_62 (kS_25) (by decide) (by decide) rfl rfl (us (by decide) (us (by decide) u1)) ?_
        refine V.vret (pc := 65) dX0_copy_65 rfl ?_
        exact hq _ _ _ _ _ (fun j hj => hC j (by omega)) hDc
      · skip
        refine V.aload_n (pc := 8) 0 dX0_copy_8 rfl ?_
        refine V.gr (pc := 9) 0 0 26 flX0_9 dX0_copy_9 (kS_25) (by decide) (by decide) rfl (kR_25_0) ?_
        refine V.iload_n (pc := 12) 2 dX0_copy_12 rfl ?_
        refine V.aload_n (pc := 13) 1 dX0_copy_13 rfl ?_
        refine V.gr (pc := 14) 0 0 11 flX0_9 dX0_copy_14 (kS_10) (by decide) (by decide) rfl (kR_10_0) ?_
        refine V.iload_n (pc := 17) 2 dX0_copy_17 rfl ?_
        refine V.ia (pc := 18) (len := 6) k (hi 11 k) dX0_copy_18 (kS_11) (rfl) (by omega) (rfl) ?_
        refine V.is (pc := 19) (len := 6) (hi' := (upR (upR (upR (upR (upR (upR (upR hi 28 (hi 28)) 31 (hi 31)) 30 (hi 30)) 29 (hi 29)) 25 (hi 25)) 27 f2) 26 (updF f1 k (hi 11 k)))) k dX0_copy_19 (kS_26) (rfl) (by omega) u1 ?_
        refine V.aload_n (pc := 20) 0 dX0_copy_20 rfl ?_
        refine V.gr (pc := 21) 0 1 27 flX0_15 dX0_copy_21 (kS_25) (by decide) (by decide) rfl (kR_25_1) ?_
        refine V.iload_n (pc := 24) 2 dX0_copy_24 rfl ?_
        refine V.aload_n (pc := 25) 1 dX0_copy_25 rfl ?_
        refine V.gr (pc := 26) 0 1 12 flX0_15 dX0_copy_26 (kS_10) (by decide) (by decide) rfl (kR_10_1) ?_
        refine V.iload_n (pc := 29) 2 dX0_copy_29 rfl ?_
        refine V.ia (pc := 30) (len := 6) k (hi 12 k) dX0_copy_30 (kS_12) (rfl) (by omega) (rfl) ?_
        refine V.is (pc := 31) (len := 6) (hi' := (upR (upR (upR (upR (upR (upR (upR hi 28 (hi 28)) 31 (hi 31)) 30 (hi 30)) 29 (hi 29)) 25 (hi 25)) 27 (updF f2 k (hi 12 k))) 26 (updF f1 k (hi 11 k)))) k dX0_copy_31 (kS_27) (rfl) (by omega) (us (by decide) u1) ?_
        refine V.iinc (pc := 32) (r := ((k + 1 : Nat) : Int)) 2 dX0_copy_32 rfl (w32_of (by omega) (by omega) (by omega)) (by decide) (ls' := [(2, vI ((k + 1 : Nat) : Int)), (0, vR 25), (1, vR 10)]) rfl ?_
        refine V.goto (pc := 35) 2 dX0_copy_35 (by decide) ?_
        refine V.locs [1, 2, 0] (ls' := [(0, vR 25), (1, vR 10), (2, vI ((k + 1 : Nat) : Int))]) rfl ?_
        exact ih2 (k + 1) (updF f1 k (hi 11 k)) (updF f2 k (hi 12 k)) (by omega) (fun j hj => by by_cases e : j = k; { subst e; rw [updF_s, updF_s]; exact ⟨rfl, rfl⟩ }; { rw [updF_n e, updF_n e]; exact hC j (by omega) }) (by omega)
  refine V.locs [1, 2, 0] (ls' := [(0, vR 25), (1, vR 10), (2, vI 0)]) rfl ?_
  exact lp2 _ 0 (hi 26) (hi 27) (by omega) (fun j hj => absurd hj (Nat.not_lt_zero j)) (Nat.lt_succ_self _)

set_option maxRecDepth 100000 in
theorem c_X0_copy_10_18 (hi hl : HI) (Q : QT) (hq : ∀ s1 s2 d1 d2 d3, (∀ j, j < 6 → s1 j = hi 19 j ∧ s2 j = hi 20 j) → (∀ j, j < 16 → d1 j = hi 22 j ∧ d2 j = hi 23 j ∧ d3 j = hi 24 j) → Q none KW (upR (upR (upR (upR (upR (upR (upR hi 13 (updF (hi 13) 3 (hi 21 3))) 16 d3) 15 d2) 14 d1) 10 (updF (updF (hi 10) 3 (hi 18 3)) 4 (hi 18 4))) 12 s2) 11 s1) hl) : Con eX0_copy [vR 10, vR 18] KW hi hl Q := by
  refine Con.ofV (by decide +kernel) (Nat.le_of_ble_eq_true rfl) ?_
  show V eX0_copy none KW 0 [(0, vR 10), (1, vR 18)] [] hi hl 0 0 Q
  refine V.hieq (hi' := (upR (upR (upR (upR (upR (upR (upR hi 13 (hi 13)) 16 (hi 16)) 15 (hi 15)) 14 (hi 14)) 10 (hi 10)) 12 (hi 12)) 11 (hi 11))) (by rw [upR_id, upR_id, upR_id, upR_id, upR_id, upR_id, upR_id]) ?_
  refine V.iconst (pc := 0) (z := 0) dX0_copy_0 rfl ⟨by decide, by decide⟩ ?_
  refine V.istore_n (pc := 1) (i := 2) dX0_copy_1 rfl (by decide) (ls' := [(2, vI 0), (0, vR 10), (1, vR 18)]) rfl ?_
  have lp2 : ∀ (fu2 : Nat) (k : Nat) (f1 : Nat → Int) (f2 : Nat → Int), (k ≤ 6) → (∀ j, j < k → f1 j = hi 19 j ∧ f2 j = hi 20 j) → 6 - k < fu2 → V eX0_copy none KW 2 [(0, vR 10), (1, vR 18), (2, vI ((k : Nat) : Int))] [] (upR (upR (upR (upR (upR (upR (upR hi 13 (hi 13)) 16 (hi 16)) 15 (hi 15)) 14 (hi 14)) 10 (hi 10)) 12 f2) 11 f1) hl 0 0 Q := by
    intro fu2
    induction fu2 with
    | zero => intro k f1 f2 hk hC hm2; exact absurd hm2 (Nat.not_lt_zero _)
    | succ fu2 ih2 =>
      intro k f1 f2 hk hC hm2
      refine V.iload_n (pc := 2) 2 dX0_copy_2 rfl ?_
      refine V.bipush (pc := 3) (z := 6) dX0_copy_3 (by decide +kernel) ⟨by decide, by decide⟩ ?_
      refine V.icmp_ge (pc := 5) 38 dX0_copy_5 (by decide) (fun h5 => ?_) (fun h5 => ?_)
      · skip
        refine V.aload_n (pc := 38) 0 dX0_copy_38 rfl ?_
        refine V.gr (pc := 39) 0 2 13 flX0_21 dX0_copy_39 (kS_10) (by decide) (by decide) rfl (kR_10_2) ?_
        refine V.aload_n (pc := 42) 1 dX0_copy_42 rfl ?_
        refine V.gr (pc := 43) 0 2 21 flX0_21 dX0_copy_43 (kS_18) (by decide) (by decide) rfl (kR_18_2) ?_
        refine V.callV (pc := 46) (e1 := eX1_copy) (o := 13) (c := 1) 1 [vR 21] [] mfX1_copy slX1_copy mlX0_32 dX0_copy_46 (kS_13) (by decide) rfl rfl rfl (Nat.le_of_ble_eq_true rfl) ⟨by decide, by decide, by decide, by decide⟩ ?_
        refine c_X1_copy_13_21 (upR (upR (upR (upR (upR (upR (upR hi 13 (hi 13)) 16 (hi 16)) 15 (hi 15)) 14 (hi 14)) 10 (hi 10)) 12 f2) 11 f1) hl _ (fun d1 d2 d3 hDc => ?_)
        refine V.qV (pc := 46) rfl rfl ?_
        refine V.hieq (hi' := (upR (upR (upR (upR (upR (upR (upR hi 13 (updF (hi 13) 3 (hi 21 3))) 16 d3) 15 d2) 14 d1) 10 (hi 10)) 12 f2) 11 f1)) ((upR_c ((upR_c ((upR_c (rs (by decide) (rs (by decide) (rs (by decide) (rs (by decide) (rs (by decide) (rs (by decide) r1))))))).trans (rs (by decide) (rs (by decide) (rs (by decide) (rs (by decide) (rs (by decide) r1))))))).trans (rs (by decide) (rs (by decide) (rs (by decide) (rs (by decide) r1)))))).trans (rs (by decide) (rs (by decide) (rs (by decide) r1)))) ?_
        refine V.aload_n (pc := 49) 0 dX0_copy_49 rfl ?_
        refine V.aload_n (pc := 50) 1 dX0_copy_50 rfl ?_
        refine V.gi (pc := 51) 0 3 (hi 18 3) flX0_25 dX0_copy_51 (kS_18) (by decide) (by decide) rfl (rfl) ?_
        refine V.pi (pc := 54) (hi' := (upR (upR (upR (upR (upR (upR (upR hi 13 (updF (hi 13) 3 (hi 21 3))) 16 d3) 15 d2) 14 d1) 10 (updF (hi 10) 3 (hi 18 3))) 12 f2) 11 f1)) 0 3 flX0_25 dX0_copy_54 (kS_10) (by decide) (by decide) rfl rfl (us (by decide) (us (by decide) u1)) ?_
        refine V.aload_n (pc := 57) 0 dX0_copy_57 rfl ?_
        refine V.aload_n (pc := 58) 1 dX0_copy_58 rfl ?_
        refine V.gi (pc := 59) 0 4 (hi 18 4) flX0_29 dX0_copy_59 (kS_18) (by decide) (by decide) rfl (rfl) ?_
        refine V.pi (pc := 62) (hi' := (upR (upR (upR (upR (upR (upR (upR hi 13 (updF (hi 13) 3 (hi 21 3))) 16 d3) 15 d2) 14 d1) 10 (updF (updF (hi 10) 3 (hi 18 3)) 4 (hi 18 4))) 12 f2) 11 f1)) 0 4 flX0_29 dX0_copy_62 (kS_10) (by decide) (by decide) rfl rfl (us (by decide) (us (by decide) u1)) ?_
        refine V.vret (pc := 65) dX0_copy_65 rfl ?_
        exact hq _ _ _ _ _ (fun j hj => hC j (by omega)) hDc
      · skip
        refine V.aload_n (pc := 8) 0 dX0_copy_8 rfl ?_
        refine V.gr (pc := 9) 0 0 11 flX0_9 dX0_copy_9 (kS_10) (by decide) (by decide) rfl (kR_10_0) ?_
        refine V.iload_n (pc := 12) 2 dX0_copy_12 rfl ?_
        refine V.aload_n (pc := 13) 1 dX0_copy_13 rfl ?_
        refine V.gr (pc := 14) 0 0 19 flX0_9 dX0_copy_14 (kS_18) (by decide) (by decide) rfl (kR_18_0) ?_
        refine V.iload_n (pc := 17) 2 dX0_copy_17 rfl ?_
        refine V.ia (pc := 18) (len := 6) k (hi 19 k) dX0_copy_18 (kS_19) (rfl) (by omega) (rfl) ?_
        refine V.is (pc := 19) (len := 6) (hi' := (upR (upR (upR (upR (upR (upR (upR hi 13 (hi 13)) 16 (hi 16)) 15 (hi 15)) 14 (hi 14)) 10 (hi 10)) 12 f2) 11 (updF f1 k (hi 19 k)))) k dX0_copy_19 (kS_11) (rfl) (by omega) u1 ?_
        refine V.aload_n (pc := 20) 0 dX0_copy_20 rfl ?_
        refine V.gr (pc := 21) 0 1 12 flX0_15 dX0_copy_21 (kS_10) (by decide) (by decide) rfl (kR_10_1) ?_
        refine V.iload_n (pc := 24) 2 dX0_copy_24 rfl ?_
        refine V.aload_n (pc := 25) 1 dX0_copy_25 rfl ?_
        refine V.gr (pc := 26) 0 1 20 flX0_15 dX0_copy_26 (kS_18) (by decide) (by decide) rfl (kR_18_1) ?_
        refine V.iload_n (pc := 29) 2 dX0_copy_29 rfl ?_
        refine V.ia (pc := 30) (len := 6) k (hi 20 k) dX0_copy_30 (kS_20) (rfl) (by omega) (rfl) ?_
        refine V.is (pc := 31) (len := 6) (hi' := (upR (upR (upR (upR (upR (upR (upR hi 13 (hi 13)) 16 (hi 16)) 15 (hi 15)) 14 (hi 14)) 10 (hi 10)) 12 (updF f2 k (hi 20 k))) 11 (updF f1 k (hi 19 k)))) k dX0_copy_31 (kS_12) (rfl) (by omega) (us (by decide) u1) ?_
        refine V.iinc (pc := 32) (r := ((k + 1 : Nat) : Int)) 2 dX0_copy_32 rfl (w32_of (by omega) (by omega) (by omega)) (by decide) (ls' := [(2, vI ((k + 1 : Nat) : Int)), (0, vR 10), (1, vR 18)]) rfl ?_
        refine V.goto (pc := 35) 2 dX0_copy_35 (by decide) ?_
        refine V.locs [1, 2, 0] (ls' := [(0, vR 10), (1, vR 18), (2, vI ((k + 1 : Nat) : Int))]) rfl ?_
        exact ih2 (k + 1) (updF f1 k (hi 19 k)) (updF f2 k (hi 20 k)) (by omega) (fun j hj => by by_cases e : j = k; { subst e; rw [updF_s, updF_s]; exact ⟨rfl, rfl⟩ }; { rw [updF_n e, updF_n e]; exact hC j (by omega) }) (by omega)
  refine V.locs [1, 2, 0] (ls' := [(0, vR 10), (1, vR 18), (2, vI 0)]) rfl ?_
  exact lp2 _ 0 (hi 11) (hi 12) (by omega) (fun j hj => absurd hj (Nat.not_lt_zero j)) (Nat.lt_succ_self _)

set_option maxRecDepth 100000 in
theorem c_X0_copy_10_25 (hi hl : HI) (Q : QT) (hq : ∀ s1 s2 d1 d2 d3, (∀ j, j < 6 → s1 j = hi 26 j ∧ s2 j = hi 27 j) → (∀ j, j < 16 → d1 j = hi 29 j ∧ d2 j = hi 30 j ∧ d3 j = hi 31 j) → Q none KW (upR (upR (upR (upR (upR (upR (upR hi 13 (updF (hi 13) 3 (hi 28 3))) 16 d3) 15 d2) 14 d1) 10 (updF (updF (hi 10) 3 (hi 25 3)) 4 (hi 25 4))) 12 s2) 11 s1) hl) : Con eX0_copy [vR 10, vR 25] KW hi hl Q := by
  refine Con.ofV (by decide +kernel) (Nat.le_of_ble_eq_true rfl) ?_
  show V eX0_copy none KW 0 [(0, vR 10), (1, vR 25)] [] hi hl 0 0 Q
  refine V.hieq (hi' := (upR (upR (upR (upR (upR (upR (upR hi 13 (hi 13)) 16 (hi 16)) 15 (hi 15)) 14 (hi 14)) 10 (hi 10)) 12 (hi 12)) 11 (hi 11))) (by rw [upR_id, upR_id, upR_id, upR_id, upR_id, upR_id, upR_id]) ?_
  refine V.iconst (pc := 0) (z := 0) dX0_copy_0 rfl ⟨by decide, by decide⟩ ?_
  refine V.istore_n (pc := 1) (i := 2) dX0_copy_1 rfl (by decide) (ls' := [(2, vI 0), (0, vR 10), (1, vR 25)]) rfl ?_
  have lp2 : ∀ (fu2 : Nat) (k : Nat) (f1 : Nat → Int) (f2 : Nat → Int), (k ≤ 6) → (∀ j, j < k → f1 j = hi 26 j ∧ f2 j = hi 27 j) → 6 - k < fu2 → V eX0_copy none KW 2 [(0, vR 10), (1, vR 25), (2, vI ((k : Nat) : Int))] [] (upR (upR (upR (upR (upR (upR (upR hi 13 (hi 13)) 16 (hi 16)) 15 (hi 15)) 14 (hi 14)) 10 (hi 10)) 12 f2) 11 f1) hl 0 0 Q := by
    intro fu2
    induction fu2 with
    | zero => intro k f1 f2 hk hC hm2; exact absurd hm2 (Nat.not_lt_zero _)
    | succ fu2 ih2 =>
      intro k f1 f2 hk hC hm2
      refine V.iload_n (pc := 2) 2 dX0_copy_2 rfl ?_
      refine V.bipush (pc := 3) (z := 6) dX0_copy_3 (by decide +kernel) ⟨by decide, by decide⟩ ?_
      refine V.icmp_ge (pc := 5) 38 dX0_copy_5 (by decide) (fun h5 => ?_) (fun h5 => ?_)
      · skip
        refine V.aload_n (pc := 38) 0 dX0_copy_38 rfl ?_
        refine V.gr (pc := 39) 0 2 13 flX0_21 dX0_copy_39 (kS_10) (by decide) (by decide) rfl (kR_10_2) ?_
        refine V.aload_n (pc := 42) 1 dX0_copy_42 rfl ?_
        refine V.gr (pc := 43) 0 2 28 flX0_21 dX0_copy_43 (kS_25) (by decide) (by decide) rfl (kR_25_2) ?_
        refine V.callV (pc := 46) (e1 := eX1_copy) (o := 13) (c := 1) 1 [vR 28] [] mfX1_copy slX1_copy mlX0_32 dX0_copy_46 (kS_13) (by decide) rfl rfl rfl (Nat.le_of_ble_eq_true rfl) ⟨by decide, by decide, by decide, by decide⟩ ?_
        refine c_X1_copy_13_28 (upR (upR (upR (upR (upR (upR (upR hi 13 (hi 13)) 16 (hi 16)) 15 (hi 15)) 14 (hi 14)) 10 (hi 10)) 12 f2) 11 f1) hl _ (fun d1 d2 d3 hDc => ?_)
        refine V.qV (pc := 46) rfl rfl ?_
        refine V.hieq (hi' := (upR (upR (upR (upR (upR (upR (upR hi 13 (updF (hi 13) 3 (hi 28 3))) 16 d3) 15 d2) 14 d1) 10 (hi 10)) 12 f2) 11 f1)) ((upR_c ((upR_c ((upR_c (rs (by decide) (rs (by decide) (rs (by decide) (rs (by decide) (rs (by decide) (rs (by decide) r1))))))).trans (rs (by decide) (rs (by decide) (rs (by decide) (rs (by decide) (rs (by decide) r1))))))).trans (rs (by decide) (rs (by decide) (rs (by decide) (rs (by decide) r1)))))).trans (rs (by decide) (rs (by decide) (rs (by decide) r1)))) ?_
        refine V.aload_n (pc := 49) 0 dX0_copy_49 rfl ?_
        refine V.aload_n (pc := 50) 1 dX0_copy_50 rfl ?_
        refine V.gi (pc := 51) 0 3 (hi 25 3) flX0_25 dX0_copy_51 (kS_25) (by decide) (by decide) rfl (rfl) ?_
        refine V.pi (pc := 54) (hi' := (upR (upR (upR (upR (upR (upR (upR hi 13 (updF (hi 13) 3 (hi 28 3))) 16 d3) 15 d2) 14 d1) 10 (updF (hi 10) 3 (hi 25 3))) 12 f2) 11 f1)) 0 3 flX0_25 dX0_copy_54 (kS_10) (by decide) (by decide) rfl rfl (us (by decide) (us (by decide) u1)) ?_
        refine V.aload_n (pc := 57) 0 dX0_copy_57 rfl ?_
        refine V.aload_n (pc := 58) 1 dX0_copy_58 rfl ?_
        refine V.gi (pc := 59) 0 4 (hi 25 4) flX0_29 dX0_copy_59 (kS_25) (by decide) (by decide) rfl (rfl) ?_
        refine V.pi (pc := 62) (hi' := (upR (upR (upR (upR (upR (upR (upR hi 13 (updF (hi 13) 3 (hi 28 3))) 16 d3) 15 d2) 14 d1) 10 (updF (updF (hi 10) 3 (hi 25 3)) 4 (hi 25 4))) 12 f2) 11 f1)) 0 4 flX0_29 dX0_copy_62 (kS_10) (by decide) (by decide) rfl rfl (us (by decide) (us (by decide) u1)) ?_
        refine V.vret (pc := 65) dX0_copy_65 rfl ?_
        exact hq _ _ _ _ _ (fun j hj => hC j (by omega)) hDc
      · skip
        refine V.aload_n (pc := 8) 0 dX0_copy_8 rfl ?_
        refine V.gr (pc := 9) 0 0 11 flX0_9 dX0_copy_9 (kS_10) (by decide) (by decide) rfl (kR_10_0) ?_
        refine V.iload_n (pc := 12) 2 dX0_copy_12 rfl ?_
        refine V.aload_n (pc := 13) 1 dX0_copy_13 rfl ?_
        refine V.gr (pc := 14) 0 0 26 flX0_9 dX0_copy_14 (kS_25) (by decide) (by decide) rfl (kR_25_0) ?_
        refine V.iload_n (pc := 17) 2 dX0_copy_17 rfl ?_
        refine V.ia (pc := 18) (len := 6) k (hi 26 k) dX0_copy_18 (kS_26) (rfl) (by omega) (rfl) ?_
        refine V.is (pc := 19) (len := 6) (hi' := (upR (upR (upR (upR (upR (upR (upR hi 13 (hi 13)) 16 (hi 16)) 15 (hi 15)) 14 (hi 14)) 10 (hi 10)) 12 f2) 11 (updF f1 k (hi 26 k)))) k dX0_copy_19 (kS_11) (rfl) (by omega) u1 ?_
        refine V.aload_n (pc := 20) 0 dX0_copy_20 rfl ?_
        refine V.gr (pc := 21) 0 1 12 flX0_15 dX0_copy_21 (kS_10) (by decide) (by decide) rfl (kR_10_1) ?_
        refine V.iload_n (pc := 24) 2 dX0_copy_24 rfl ?_
        refine V.aload_n (pc := 25) 1 dX0_copy_25 rfl ?_
        refine V.gr (pc := 26) 0 1 27 flX0_15 dX0_copy_26 (kS_25) (by decide) (by decide) rfl (kR_25_1) ?_
        refine V.iload_n (pc := 29) 2 dX0_copy_29 rfl ?_
        refine V.ia (pc := 30) (len := 6) k (hi 27 k) dX0_copy_30 (kS_27) (rfl) (by omega) (rfl) ?_
        refine V.is (pc := 31) (len := 6) (hi' := (upR (upR (upR (upR (upR (upR (upR hi 13 (hi 13)) 16 (hi 16)) 15 (hi 15)) 14 (hi 14)) 10 (hi 10)) 12 (updF f2 k (hi 27 k))) 11 (updF f1 k (hi 26 k)))) k dX0_copy_31 (kS_12) (rfl) (by omega) (us (by decide) u1) ?_
        refine V.iinc (pc := 32) (r := ((k + 1 : Nat) : Int)) 2 dX0_copy_32 rfl (w32_of (by omega) (by omega) (by omega)) (by decide) (ls' := [(2, vI ((k + 1 : Nat) : Int)), (0, vR 10), (1, vR 25)]) rfl ?_
        refine V.goto (pc := 35) 2 dX0_copy_35 (by decide) ?_
        refine V.locs [1, 2, 0] (ls' := [(0, vR 10), (1, vR 25), (2, vI ((k + 1 : Nat) : Int))]) rfl ?_
        exact ih2 (k + 1) (updF f1 k (hi 26 k)) (updF f2 k (hi 27 k)) (by omega) (fun j hj => by by_cases e : j = k; { subst e; rw [updF_s, updF_s]; exact ⟨rfl, rfl⟩ }; { rw [updF_n e, updF_n e]; exact hC j (by omega) }) (by omega)
  refine V.locs [1, 2, 0] (ls' := [(0, vR 10), (1, vR 25), (2, vI 0)]) rfl ?_
  exact lp2 _ 0 (hi 11) (hi 12) (by omega) (fun j hj => absurd hj (Nat.not_lt_zero j)) (Nat.lt_succ_self _)

