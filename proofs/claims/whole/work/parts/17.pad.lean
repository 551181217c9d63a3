set_option maxRecDepth 100000 in
theorem c_X4_count (hi hl : HI) (hT : TB (hi 2) (hi 3)) (s v : Nat) (hs : s ≤ 4) (hv : v < 364) (Q : QT) (hq : Q (some (vI (slN s v : Nat))) KW hi hl) : Con eX4_count [vR 1, vI (s : Nat), vI (v : Nat)] KW hi hl Q := by
  refine Con.ofV (by decide +kernel) (Nat.le_of_ble_eq_true rfl) ?_
  show V eX4_count none KW 0 [(0, vR 1), (1, vI ((s : Nat) : Int)), (2, vI ((v : Nat) : Int))] [] hi hl 0 0 Q
  refine V.iload_n (pc := 0) 1 dX4_count_0 rfl ?_
  refine V.iload_n (pc := 1) 2 dX4_count_1 rfl ?_
  refine V.callS (pc := 2) (e1 := eX4_rowOf) 2 [vI ((s : Nat) : Int), vI ((v : Nat) : Int)] [] mfX4_rowOf slX4_rowOf mlX4_43 dX4_count_2 rfl rfl (Nat.le_of_ble_eq_true rfl) ⟨by decide, by decide, by decide, by decide⟩ ?_
  refine c_X4_rowOf KW hi hl s v _ (fun hr => ?_) (fun hr => ?_) (by omega)
  · skip
    refine V.qI (pc := 2) rfl rfl ?_
    refine V.istore_n (pc := 5) (i := 3) dX4_count_5 rfl (by decide) (ls' := [(3, vI (((s - 1) * 364 + v : Nat) : Int)), (0, vR 1), (1, vI ((s : Nat) : Int)), (2, vI ((v : Nat) : Int))]) rfl ?_
    refine V.iload_n (pc := 6) 0 dX4_count_6 rfl ?_
    refine V.if_ge (pc := 7) 14 dX4_count_7 (by decide) (fun h7 => ?_) (fun hc => by exfalso; omega)
    refine V.aload_n (pc := 14) 1 dX4_count_14 rfl ?_
    refine V.gr (pc := 15) 4 1 3 flX4_15 dX4_count_15 (kS_1) (by decide) (by decide) rfl (kR_1_1) ?_
    refine V.iload_n (pc := 18) 0 dX4_count_18 rfl ?_
    refine V.iconst (pc := 19) (z := 1) dX4_count_19 rfl ⟨by decide, by decide⟩ ?_
    have hst := stt_n hr.1 hr.2.2
    have hsb := stt_c (show (s - 1) * 364 + v + 1 ≤ 1092 by omega)
    refine V.iadd (pc := 20) (((((s - 1) * 364 + v + 1) : Nat) : Int)) dX4_count_20 (addN (a := (s - 1) * 364 + v) (b := 1) (by omega)) ?_
    refine V.ia (pc := 21) (len := 1093) ((s - 1) * 364 + v + 1) ((stt ((s - 1) * 364 + v + 1) : Nat) : Int) dX4_count_21 (kS_3) (rfl) (by omega) (hT.1 _ (by omega)) ?_
    refine V.aload_n (pc := 22) 1 dX4_count_22 rfl ?_
    refine V.gr (pc := 23) 4 1 3 flX4_15 dX4_count_23 (kS_1) (by decide) (by decide) rfl (kR_1_1) ?_
    refine V.iload_n (pc := 26) 0 dX4_count_26 rfl ?_
    refine V.ia (pc := 27) (len := 1093) ((s - 1) * 364 + v) ((stt ((s - 1) * 364 + v) : Nat) : Int) dX4_count_27 (kS_3) (rfl) (by omega) (hT.1 _ (by omega)) ?_
    refine V.isub (pc := 28) (((slN s v : Nat) : Int)) dX4_count_28 (w32_of (by omega) (by omega) (by omega)) ?_
    refine V.iret (pc := 29) (z := ((slN s v : Nat) : Int)) dX4_count_29 rfl ?_
    exact hq
  · skip
    refine V.qI (pc := 2) rfl rfl ?_
    refine V.istore_n (pc := 5) (i := 3) dX4_count_5 rfl (by decide) (ls' := [(3, vI (-1)), (0, vR 1), (1, vI ((s : Nat) : Int)), (2, vI ((v : Nat) : Int))]) rfl ?_
    refine V.iload_n (pc := 6) 0 dX4_count_6 rfl ?_
    refine V.if_ge (pc := 7) 14 dX4_count_7 (by decide) (fun hc => by exact absurd hc (by decide)) (fun h7 => ?_)
    refine V.iconst (pc := 10) (z := 0) dX4_count_10 rfl ⟨by decide, by decide⟩ ?_
    refine V.goto (pc := 11) 29 dX4_count_11 (by decide) ?_
    refine V.iret (pc := 29) (z := 0) dX4_count_29 rfl ?_
    rw [slN_0 (by omega)] at hq
    exact hq

set_option maxRecDepth 100000 in
theorem c_X4_numbered (hi hl : HI) (hT : TB (hi 2) (hi 3)) (s v n : Nat) (hs : s ≤ 4) (hv : v < 364) (Q : QT) (hq : Q (some (vI (nth s v n : Nat))) KW hi hl) : Con eX4_numbered [vR 1, vI (s : Nat), vI (v : Nat), vI (n : Nat)] KW hi hl Q := by
  refine Con.ofV (by decide +kernel) (Nat.le_of_ble_eq_true rfl) ?_
  show V eX4_numbered none KW 0 [(0, vR 1), (1, vI ((s : Nat) : Int)), (2, vI ((v : Nat) : Int)), (3, vI ((n : Nat) : Int))] [] hi hl 0 0 Q
  refine V.iload_n (pc := 0) 1 dX4_numbered_0 rfl ?_
  refine V.iload_n (pc := 1) 2 dX4_numbered_1 rfl ?_
  refine V.callS (pc := 2) (e1 := eX4_rowOf) 2 [vI ((s : Nat) : Int), vI ((v : Nat) : Int)] [] mfX4_rowOf slX4_rowOf mlX4_43 dX4_numbered_2 rfl rfl (Nat.le_of_ble_eq_true rfl) ⟨by decide, by decide, by decide, by decide⟩ ?_
  refine c_X4_rowOf KW hi hl s v _ (fun hr => ?_) (fun hr => ?_) (by omega)
  · skip
    refine V.qI (pc := 2) rfl rfl ?_
    refine V.istore (pc := 5) (i := 4) dX4_numbered_5 (by decide) (ls' := [(4, vI (((s - 1) * 364 + v : Nat) : Int)), (0, vR 1), (1, vI ((s : Nat) : Int)), (2, vI ((v : Nat) : Int)), (3, vI ((n : Nat) : Int))]) rfl ?_
    refine V.iload (pc := 7) 0 dX4_numbered_7 rfl ?_
    refine V.if_lt (pc := 9) 38 dX4_numbered_9 (by decide) (fun hc => by exfalso; omega) (fun h9 => ?_)
    refine V.iload_n (pc := 12) 4 dX4_numbered_12 rfl ?_
    refine V.iconst (pc := 13) (z := 1) dX4_numbered_13 rfl ⟨by decide, by decide⟩ ?_
    refine V.icmp_lt (pc := 14) 38 dX4_numbered_14 (by decide) (fun h14 => ?_) (fun h14 => ?_)
    · skip
      refine V.iload_n (pc := 38) 3 dX4_numbered_38 rfl ?_
      refine V.iret (pc := 39) (z := ((v : Nat) : Int)) dX4_numbered_39 rfl ?_
      rw [nth_0 (by first | omega | (have := slN_0 (s := s) (v := v) (by omega); omega))] at hq
      exact hq
    · skip
      refine V.iload_n (pc := 17) 4 dX4_numbered_17 rfl ?_
      refine V.aload_n (pc := 18) 1 dX4_numbered_18 rfl ?_
      refine V.gr (pc := 19) 4 1 3 flX4_15 dX4_numbered_19 (kS_1) (by decide) (by decide) rfl (kR_1_1) ?_
      refine V.iload (pc := 22) 0 dX4_numbered_22 rfl ?_
      refine V.iconst (pc := 24) (z := 1) dX4_numbered_24 rfl ⟨by decide, by decide⟩ ?_
      have hst := stt_n hr.1 hr.2.2
      have hsb := stt_c (show (s - 1) * 364 + v + 1 ≤ 1092 by omega)
      refine V.iadd (pc := 25) (((((s - 1) * 364 + v + 1) : Nat) : Int)) dX4_numbered_25 (addN (a := (s - 1) * 364 + v) (b := 1) (by omega)) ?_
      refine V.ia (pc := 26) (len := 1093) ((s - 1) * 364 + v + 1) ((stt ((s - 1) * 364 + v + 1) : Nat) : Int) dX4_numbered_26 (kS_3) (rfl) (by omega) (hT.1 _ (by omega)) ?_
      refine V.aload_n (pc := 27) 1 dX4_numbered_27 rfl ?_
      refine V.gr (pc := 28) 4 1 3 flX4_15 dX4_numbered_28 (kS_1) (by decide) (by decide) rfl (kR_1_1) ?_
      refine V.iload (pc := 31) 0 dX4_numbered_31 rfl ?_
      refine V.ia (pc := 33) (len := 1093) ((s - 1) * 364 + v) ((stt ((s - 1) * 364 + v) : Nat) : Int) dX4_numbered_33 (kS_3) (rfl) (by omega) (hT.1 _ (by omega)) ?_
      refine V.isub (pc := 34) (((slN s v : Nat) : Int)) dX4_numbered_34 (w32_of (by omega) (by omega) (by omega)) ?_
      refine V.icmp_le (pc := 35) 40 dX4_numbered_35 (by decide) (fun h35 => ?_) (fun h35 => ?_)
      · skip
        refine V.aload_n (pc := 40) 1 dX4_numbered_40 rfl ?_
        refine V.gr (pc := 41) 4 1 3 flX4_15 dX4_numbered_41 (kS_1) (by decide) (by decide) rfl (kR_1_1) ?_
        refine V.iload (pc := 44) 0 dX4_numbered_44 rfl ?_
        refine V.ia (pc := 46) (len := 1093) ((s - 1) * 364 + v) ((stt ((s - 1) * 364 + v) : Nat) : Int) dX4_numbered_46 (kS_3) (rfl) (by omega) (hT.1 _ (by omega)) ?_
        refine V.iload_n (pc := 47) 4 dX4_numbered_47 rfl ?_
        refine V.iadd (pc := 48) ((((stt ((s - 1) * 364 + v) + n) : Nat) : Int)) dX4_numbered_48 (addN (a := stt ((s - 1) * 364 + v)) (b := n) (by omega)) ?_
        refine V.iconst (pc := 49) (z := 1) dX4_numbered_49 rfl ⟨by decide, by decide⟩ ?_
        refine V.isub (pc := 50) (((stt ((s - 1) * 364 + v) + (n - 1) : Nat) : Int)) dX4_numbered_50 (w32_of (by omega) (by omega) (by omega)) ?_
        refine V.istore (pc := 51) (i := 5) dX4_numbered_51 (by decide) (ls' := [(5, vI ((stt ((s - 1) * 364 + v) + (n - 1) : Nat) : Int)), (4, vI (((s - 1) * 364 + v : Nat) : Int)), (0, vR 1), (1, vI ((s : Nat) : Int)), (2, vI ((v : Nat) : Int)), (3, vI ((n : Nat) : Int))]) rfl ?_
        refine V.iload (pc := 53) 0 dX4_numbered_53 rfl ?_
        refine V.if_lt (pc := 55) 78 dX4_numbered_55 (by decide) (fun hc => by exfalso; omega) (fun h55 => ?_)
        refine V.iload (pc := 58) 0 dX4_numbered_58 rfl ?_
        refine V.aload_n (pc := 60) 2 dX4_numbered_60 rfl ?_
        refine V.gr (pc := 61) 4 0 2 flX4_9 dX4_numbered_61 (kS_1) (by decide) (by decide) rfl (kR_1_0) ?_
        refine V.alen (pc := 64) (len := 5712) (t := 0) dX4_numbered_64 (kS_2) (by decide) (by decide) ?_
        refine V.icmp_ge (pc := 65) 78 dX4_numbered_65 (by decide) (fun hc => by exfalso; omega) (fun h65 => ?_)
        refine V.aload_n (pc := 68) 2 dX4_numbered_68 rfl ?_
        refine V.gr (pc := 69) 4 0 2 flX4_9 dX4_numbered_69 (kS_1) (by decide) (by decide) rfl (kR_1_0) ?_
        refine V.iload (pc := 72) 0 dX4_numbered_72 rfl ?_
        refine V.ia (pc := 74) (len := 5712) (stt ((s - 1) * 364 + v) + (n - 1)) ((nth s v n : Nat) : Int) dX4_numbered_74 (kS_2) (rfl) (by omega) (by rw [nth_in (by omega)]; have h9 := hT.2 ((s - 1) * 364 + v) (by omega) (n - 1) (by rw [(rc hr.1 hr.2.2).1, (rc hr.1 hr.2.2).2]; omega); rw [(rc hr.1 hr.2.2).1, (rc hr.1 hr.2.2).2] at h9; exact h9) ?_
        refine V.goto (pc := 75) 79 dX4_numbered_75 (by decide) ?_
        refine V.iret (pc := 79) (z := ((nth s v n : Nat) : Int)) dX4_numbered_79 rfl ?_
        exact hq
      · skip
        refine V.iload_n (pc := 38) 3 dX4_numbered_38 rfl ?_
        refine V.iret (pc := 39) (z := ((v : Nat) : Int)) dX4_numbered_39 rfl ?_
        rw [nth_0 (by first | omega | (have := slN_0 (s := s) (v := v) (by omega); omega))] at hq
        exact hq
  · skip
    refine V.qI (pc := 2) rfl rfl ?_
    refine V.istore (pc := 5) (i := 4) dX4_numbered_5 (by decide) (ls' := [(4, vI (-1)), (0, vR 1), (1, vI ((s : Nat) : Int)), (2, vI ((v : Nat) : Int)), (3, vI ((n : Nat) : Int))]) rfl ?_
    refine V.iload (pc := 7) 0 dX4_numbered_7 rfl ?_
    refine V.if_lt (pc := 9) 38 dX4_numbered_9 (by decide) (fun h9 => ?_) (fun hc => by exact absurd hc (by decide))
    refine V.iload_n (pc := 38) 3 dX4_numbered_38 rfl ?_
    refine V.iret (pc := 39) (z := ((v : Nat) : Int)) dX4_numbered_39 rfl ?_
    rw [nth_0 (by first | omega | (have := slN_0 (s := s) (v := v) (by omega); omega))] at hq
    exact hq

set_option maxRecDepth 100000 in
theorem c_X3_add (hi hl : HI) (m : Nat) (hm : hi 4 1 = (m : Nat)) (x : Int) (Q : QT) (hF : 48 ≤ m → Q (some (vI 0)) KW hi hl) (hT : m < 48 → Q (some (vI 1)) KW (upR (upR hi 4 (updF (hi 4) 1 (((m + 1 : Nat)) : Int))) 5 (updF (hi 5) m x)) hl) : Con eX3_add [vR 4, vI x] KW hi hl Q := by
  refine Con.ofV (by decide +kernel) (Nat.le_of_ble_eq_true rfl) ?_
  show V eX3_add none KW 0 [(0, vR 4), (1, vI x)] [] hi hl 0 0 Q
  refine V.aload_n (pc := 0) 0 dX3_add_0 rfl ?_
  refine V.gi (pc := 1) 3 1 ((m : Nat) : Int) flX3_15 dX3_add_1 (kS_4) (by decide) (by decide) rfl (hm) ?_
  refine V.if_lt (pc := 4) 16 dX3_add_4 (by decide) (fun hc => by exfalso; omega) (fun h4 => ?_)
  refine V.aload_n (pc := 7) 0 dX3_add_7 rfl ?_
  refine V.gi (pc := 8) 3 1 ((m : Nat) : Int) flX3_15 dX3_add_8 (kS_4) (by decide) (by decide) rfl (hm) ?_
  refine V.bipush (pc := 11) (z := 48) dX3_add_11 (by decide +kernel) ⟨by decide, by decide⟩ ?_
  refine V.icmp_lt (pc := 13) 18 dX3_add_13 (by decide) (fun h13 => ?_) (fun h13 => ?_)
  · skip
    refine V.aload_n (pc := 18) 0 dX3_add_18 rfl ?_
    refine V.gr (pc := 19) 3 0 5 flX3_9 dX3_add_19 (kS_4) (by decide) (by decide) rfl (kR_4_0) ?_
    refine V.aload_n (pc := 22) 0 dX3_add_22 rfl ?_
    refine V.gi (pc := 23) 3 1 ((m : Nat) : Int) flX3_15 dX3_add_23 (kS_4) (by decide) (by decide) rfl (hm) ?_
    refine V.iload_n (pc := 26) 1 dX3_add_26 rfl ?_
    refine V.is (pc := 27) (len := 48) (hi' := (upR hi 5 (updF (hi 5) m x))) m dX3_add_27 (kS_5) (rfl) (by omega) u0 ?_
    refine V.aload_n (pc := 28) 0 dX3_add_28 rfl ?_
    refine V.dup (pc := 29) dX3_add_29 rfl ?_
    refine V.gi (pc := 30) 3 1 ((m : Nat) : Int) flX3_15 dX3_add_30 (kS_4) (by decide) (by decide) rfl (hm) ?_
    refine V.iconst (pc := 33) (z := 1) dX3_add_33 rfl ⟨by decide, by decide⟩ ?_
    refine V.iadd (pc := 34) ((((m + 1) : Nat) : Int)) dX3_add_34 (addN (a := m) (b := 1) (by omega)) ?_
    refine V.pi (pc := 35) (hi' := (upR (upR hi 4 (updF (hi 4) 1 (((m + 1) : Nat) : Int))) 5 (updF (hi 5) m x))) 3 1 flX3_15 dX3_add_35 (kS_4) (by decide) (by decide) rfl rfl (us (by decide) u0) ?_
    refine V.iconst (pc := 38) (z := 1) dX3_add_38 rfl ⟨by decide, by decide⟩ ?_
    refine V.zret (pc := 39) (z := 1) dX3_add_39 rfl (Or.inr rfl) ?_
    exact hT (by omega)
  · skip
    refine V.iconst (pc := 16) (z := 0) dX3_add_16 rfl ⟨by decide, by decide⟩ ?_
    refine V.zret (pc := 17) (z := 0) dX3_add_17 rfl (Or.inl rfl) ?_
    exact hF (by omega)

set_option maxRecDepth 100000 in
theorem c_X3_sayingFault (hi hl : HI) (m : Nat) (hm : hi 4 1 = (m : Nat)) (hm2 : m ≤ 48) (Q : QT) (hq : Q (some (vI (sayF (hi 5) m))) KW hi hl) : Con eX3_sayingFault [vR 4] KW hi hl Q := by
  refine Con.ofV (by decide +kernel) (Nat.le_of_ble_eq_true rfl) ?_
  show V eX3_sayingFault none KW 0 [(0, vR 4)] [] hi hl 0 0 Q
  refine V.iconst (pc := 0) (z := 0) dX3_sayingFault_0 rfl ⟨by decide, by decide⟩ ?_
  refine V.istore_n (pc := 1) (i := 1) dX3_sayingFault_1 rfl (by decide) (ls' := [(1, vI 0), (0, vR 4)]) rfl ?_
  have lp2 : ∀ (fu2 : Nat) (k : Nat), (k ≤ m) → (sayF (hi 5) k = -6) → m - k < fu2 → V eX3_sayingFault none KW 2 [(0, vR 4), (1, vI ((k : Nat) : Int))] [] hi hl 0 0 Q := by
    intro fu2
    induction fu2 with
    | zero => intro k hk hk2 hm2; exact absurd hm2 (Nat.not_lt_zero _)
    | succ fu2 ih2 =>
      intro k hk hk2 hm2
      refine V.iload_n (pc := 2) 1 dX3_sayingFault_2 rfl ?_
      refine V.aload_n (pc := 3) 0 dX3_sayingFault_3 rfl ?_
      refine V.gi (pc := 4) 3 1 ((m : Nat) : Int) flX3_15 dX3_sayingFault_4 (kS_4) (by decide) (by decide) rfl (hm) ?_
      refine V.icmp_ge (pc := 7) 51 dX3_sayingFault_7 (by decide) (fun h7 => ?_) (fun h7 => ?_)
      · skip
        refine V.bipush (pc := 51) (z := (-6)) dX3_sayingFault_51 (by decide +kernel) ⟨by decide, by decide⟩ ?_
        refine V.iret (pc := 53) (z := (-6)) dX3_sayingFault_53 rfl ?_
        have e : k = m := by omega
        subst e
        rw [hk2] at hq
        exact hq
      · skip
        refine V.iload_n (pc := 10) 1 dX3_sayingFault_10 rfl ?_
        refine V.bipush (pc := 11) (z := 48) dX3_sayingFault_11 (by decide +kernel) ⟨by decide, by decide⟩ ?_
        refine V.icmp_ge (pc := 13) 51 dX3_sayingFault_13 (by decide) (fun hc => by exfalso; omega) (fun h13 => ?_)
        refine V.iload_n (pc := 16) 1 dX3_sayingFault_16 rfl ?_
        refine V.iconst (pc := 17) (z := 5) dX3_sayingFault_17 rfl ⟨by decide, by decide⟩ ?_
        refine V.icmp_ge (pc := 18) 43 dX3_sayingFault_18 (by decide) (fun h18 => ?_) (fun h18 => ?_)
        · skip
          refine V.iload_n (pc := 43) 1 dX3_sayingFault_43 rfl ?_
          refine V.iret (pc := 44) (z := ((k : Nat) : Int)) dX3_sayingFault_44 rfl ?_
          rw [sayF_bad hk2 (by omega) m (by omega)] at hq
          exact hq
        · skip
          refine V.aload_n (pc := 21) 0 dX3_sayingFault_21 rfl ?_
          refine V.gr (pc := 22) 3 0 5 flX3_9 dX3_sayingFault_22 (kS_4) (by decide) (by decide) rfl (kR_4_0) ?_
          refine V.iload_n (pc := 25) 1 dX3_sayingFault_25 rfl ?_
          refine V.ia (pc := 26) (len := 48) k (hi 5 k) dX3_sayingFault_26 (kS_5) (rfl) (by omega) (rfl) ?_
          refine V.bipush (pc := 27) (z := 97) dX3_sayingFault_27 (by decide +kernel) ⟨by decide, by decide⟩ ?_
          refine V.icmp_lt (pc := 29) 43 dX3_sayingFault_29 (by decide) (fun h29 => ?_) (fun h29 => ?_)
          · skip
            refine V.iload_n (pc := 43) 1 dX3_sayingFault_43 rfl ?_
            refine V.iret (pc := 44) (z := ((k : Nat) : Int)) dX3_sayingFault_44 rfl ?_
            rw [sayF_bad hk2 (by omega) m (by omega)] at hq
            exact hq
          · skip
            refine V.aload_n (pc := 32) 0 dX3_sayingFault_32 rfl ?_
            refine V.gr (pc := 33) 3 0 5 flX3_9 dX3_sayingFault_33 (kS_4) (by decide) (by decide) rfl (kR_4_0) ?_
            refine V.iload_n (pc := 36) 1 dX3_sayingFault_36 rfl ?_
            refine V.ia (pc := 37) (len := 48) k (hi 5 k) dX3_sayingFault_37 (kS_5) (rfl) (by omega) (rfl) ?_
            refine V.bipush (pc := 38) (z := 99) dX3_sayingFault_38 (by decide +kernel) ⟨by decide, by decide⟩ ?_
            refine V.icmp_le (pc := 40) 45 dX3_sayingFault_40 (by decide) (fun h40 => ?_) (fun h40 => ?_)
            · skip
              refine V.iinc (pc := 45) (r := ((k + 1 : Nat) : Int)) 1 dX3_sayingFault_45 rfl (w32_of (by omega) (by omega) (by omega)) (by decide) (ls' := [(1, vI ((k + 1 : Nat) : Int)), (0, vR 4)]) rfl ?_
              refine V.goto (pc := 48) 2 dX3_sayingFault_48 (by decide) ?_
              refine V.locs [1, 0] (ls' := [(0, vR 4), (1, vI ((k + 1 : Nat) : Int))]) rfl ?_
              exact ih2 (k + 1) (by omega) (sayF_ok hk2 (by omega)) (by omega)
            · skip
              refine V.iload_n (pc := 43) 1 dX3_sayingFault_43 rfl ?_
              refine V.iret (pc := 44) (z := ((k : Nat) : Int)) dX3_sayingFault_44 rfl ?_
              rw [sayF_bad hk2 (by omega) m (by omega)] at hq
              exact hq
  refine V.locs [1, 0] (ls' := [(0, vR 4), (1, vI 0)]) rfl ?_
  exact lp2 _ 0 (by omega) (rfl) (Nat.lt_succ_self _)

set_option maxRecDepth 100000 in
theorem c_X3_readSaying (hi hl : HI) (m : Nat) (hm : hi 4 1 = (m : Nat)) (hm2 : m ≤ 48) (Q : QT) (hN : sayF (hi 5) m ≠ -6 → Q (some (vI (-1))) KW hi hl) (hq : sayF (hi 5) m = -6 → Q (some (vI ((f3 m + sayV (hi 5) m : Nat)))) KW hi hl) : Con eX3_readSaying [vR 4] KW hi hl Q := by
  refine Con.ofV (by decide +kernel) (Nat.le_of_ble_eq_true rfl) ?_
  show V eX3_readSaying none KW 0 [(0, vR 4)] [] hi hl 0 0 Q
  refine V.aload_n (pc := 0) 0 dX3_readSaying_0 rfl ?_
  refine V.callV (pc := 1) (e1 := eX3_sayingFault) (o := 4) (c := 3) 0 [] [] mfX3_sayingFault slX3_sayingFault mlX3_19 dX3_readSaying_1 (kS_4) (by decide) rfl rfl rfl (Nat.le_of_ble_eq_true rfl) ⟨by decide, by decide, by decide, by decide⟩ ?_
  refine c_X3_sayingFault hi hl m (hm) hm2 _ ?_
  refine V.qI (pc := 1) rfl rfl ?_
  refine V.bipush (pc := 4) (z := (-6)) dX3_readSaying_4 (by decide +kernel) ⟨by decide, by decide⟩ ?_
  refine V.icmp_eq (pc := 6) 11 dX3_readSaying_6 (by decide) (fun h6 => ?_) (fun h6 => ?_)
  · skip
    refine V.iconst (pc := 11) (z := 0) dX3_readSaying_11 rfl ⟨by decide, by decide⟩ ?_
    refine V.istore_n (pc := 12) (i := 1) dX3_readSaying_12 rfl (by decide) (ls' := [(1, vI 0), (0, vR 4)]) rfl ?_
    refine V.iconst (pc := 13) (z := 0) dX3_readSaying_13 rfl ⟨by decide, by decide⟩ ?_
    refine V.istore_n (pc := 14) (i := 2) dX3_readSaying_14 rfl (by decide) (ls' := [(2, vI 0), (1, vI 0), (0, vR 4)]) rfl ?_
    have lp15 : ∀ (fu15 : Nat) (k : Nat), (k ≤ m) → m - k < fu15 → V eX3_readSaying none KW 15 [(0, vR 4), (1, vI ((sayV (hi 5) k : Nat) : Int)), (2, vI ((k : Nat) : Int))] [] hi hl 0 0 Q := by
      intro fu15
      induction fu15 with
      | zero => intro k hk hm15; exact absurd hm15 (Nat.not_lt_zero _)
      | succ fu15 ih15 =>
        intro k hk hm15
        have h5 := sayF_5 h6
        have hall := fun j (hj : j < m) => (sayF_all h6 j hj).2
        have hlt := sayV_lt (fun j (hj : j < k) => hall j (by omega))
        have hp3 := p3_6 (show k ≤ 6 by omega)
        refine V.iload_n (pc := 15) 2 dX3_readSaying_15 rfl ?_
        refine V.aload_n (pc := 16) 0 dX3_readSaying_16 rfl ?_
        refine V.gi (pc := 17) 3 1 ((m : Nat) : Int) flX3_15 dX3_readSaying_17 (kS_4) (by decide) (by decide) rfl (hm) ?_
        refine V.icmp_ge (pc := 20) 48 dX3_readSaying_20 (by decide) (fun h20 => ?_) (fun h20 => ?_)
        · skip
          refine V.aload_n (pc := 48) 0 dX3_readSaying_48 rfl ?_
          refine V.gi (pc := 49) 3 1 ((m : Nat) : Int) flX3_15 dX3_readSaying_49 (kS_4) (by decide) (by decide) rfl (hm) ?_
          have e : k = m := by omega
          have hlt3 := padS_lt h6
          refine V.callS (pc := 52) (e1 := eX7_firstOf) 1 [vI ((m : Nat) : Int)] [] mfX7_firstOf slX7_firstOf mlX3_23 dX3_readSaying_52 rfl rfl (Nat.le_of_ble_eq_true rfl) ⟨by decide, by decide, by decide, by decide⟩ ?_
          refine c_X7_firstOf KW hi hl m (by omega) _ ?_
          refine V.qI (pc := 52) rfl rfl ?_
          refine V.iload_n (pc := 55) 1 dX3_readSaying_55 rfl ?_
          refine V.iadd (pc := 56) (((f3 m + sayV (hi 5) m : Nat) : Int)) dX3_readSaying_56 (by rw [← e] at hlt3 ⊢; exact addN (by omega)) ?_
          refine V.iret (pc := 57) (z := ((f3 m + sayV (hi 5) m : Nat) : Int)) dX3_readSaying_57 rfl ?_
          exact hq h6
        · skip
          refine V.iload_n (pc := 23) 2 dX3_readSaying_23 rfl ?_
          refine V.iconst (pc := 24) (z := 5) dX3_readSaying_24 rfl ⟨by decide, by decide⟩ ?_
          refine V.icmp_ge (pc := 25) 48 dX3_readSaying_25 (by decide) (fun hc => by exfalso; omega) (fun h25 => ?_)
          refine V.iload_n (pc := 28) 1 dX3_readSaying_28 rfl ?_
          refine V.iconst (pc := 29) (z := 3) dX3_readSaying_29 rfl ⟨by decide, by decide⟩ ?_
          refine V.imul (pc := 30) (((3 * sayV (hi 5) k : Nat) : Int)) dX3_readSaying_30 (w32_of (by omega) (by omega) (by omega)) ?_
          refine V.aload_n (pc := 31) 0 dX3_readSaying_31 rfl ?_
          refine V.gr (pc := 32) 3 0 5 flX3_9 dX3_readSaying_32 (kS_4) (by decide) (by decide) rfl (kR_4_0) ?_
          refine V.iload_n (pc := 35) 2 dX3_readSaying_35 rfl ?_
          refine V.ia (pc := 36) (len := 48) k (hi 5 k) dX3_readSaying_36 (kS_5) (rfl) (by omega) (rfl) ?_
          have hg := hall k (by omega)
          refine V.iadd (pc := 37) ((((3 * sayV (hi 5) k : Nat) : Int) + (hi 5 k))) dX3_readSaying_37 (w32_of (by omega) (by omega) (by omega)) ?_
          refine V.bipush (pc := 38) (z := 97) dX3_readSaying_38 (by decide +kernel) ⟨by decide, by decide⟩ ?_
          refine V.isub (pc := 40) (((sayV (hi 5) (k + 1) : Nat) : Int)) dX3_readSaying_40 (w32_of (by rw [sayV_s]; omega) (by omega) (by rw [sayV_s]; omega)) ?_
          refine V.istore_n (pc := 41) (i := 1) dX3_readSaying_41 rfl (by decide) (ls' := [(1, vI ((sayV (hi 5) (k + 1) : Nat) : Int)), (0, vR 4), (2, vI ((k : Nat) : Int))]) rfl ?_
          refine V.iinc (pc := 42) (r := ((k + 1 : Nat) : Int)) 2 dX3_readSaying_42 rfl (w32_of (by omega) (by omega) (by omega)) (by decide) (ls' := [(2, vI ((k + 1 : Nat) : Int)), (1, vI ((sayV (hi 5) (k + 1) : Nat) : Int)), (0, vR 4)]) rfl ?_
          refine V.goto (pc := 45) 15 dX3_readSaying_45 (by decide) ?_
          refine V.locs [2, 1, 0] (ls' := [(0, vR 4), (1, vI ((sayV (hi 5) (k + 1) : Nat) : Int)), (2, vI ((k + 1 : Nat) : Int))]) rfl ?_
          exact ih15 (k + 1) (by omega) (by omega)
    refine V.locs [2, 1, 0] (ls' := [(0, vR 4), (1, vI 0), (2, vI 0)]) rfl ?_
    exact lp15 _ 0 (by omega) (Nat.lt_succ_self _)
  · skip
    refine V.iconst (pc := 9) (z := (-1)) dX3_readSaying_9 rfl ⟨by decide, by decide⟩ ?_
    refine V.iret (pc := 10) (z := (-1)) dX3_readSaying_10 rfl ?_
    exact hN h6

