set_option maxRecDepth 100000 in
theorem c_X8_sort (hi hl : HI) (σ : SG) (m : Nat) (g : Nat → Int) (im : Nat → Option SG) (hR : RMo hi hl (σ, m, g, im)) (b : Int) (v : Int) (Q : QT) (hq : ∀ hi' hl' : HI, FrM hi hl hi' hl' → RMo hi' hl' (nSort (σ, m, g, im) b v) → Q (some (vI (aSort (σ, m, g, im) b v))) KW hi' hl') : Con eX8_sort [vR 77, vI b, vI v] KW hi hl Q := by
  refine Con.ofV (by decide +kernel) (Nat.le_of_ble_eq_true rfl) ?_
  show V eX8_sort none KW 0 [(0, vR 77), (1, vI b), (2, vI v)] [] hi hl 0 0 Q
  refine V.hieq (hi' := (upR hi 80 (hi 80))) (by rw [upR_id]) ?_
  obtain ⟨hC, ⟨hm, hm2, hg5, hgr⟩, k0, k1, k2, k3⟩ := RM_o hR
  subst hg5
  have hwf := hC.1
  have hn16 := hwf.2.2.1
  have hbg := hwf.2.2.2.2.1
  refine V.iload_n (pc := 0) 1 dX8_sort_0 rfl ?_
  refine V.callS (pc := 1) (e1 := eX8_isBird) 1 [vI b] [] mfX8_isBird slX8_isBird mlX8_103 dX8_sort_1 rfl rfl (Nat.le_of_ble_eq_true rfl) ⟨by decide, by decide, by decide, by decide⟩ ?_
  refine c_X8_isBird KW (upR hi 80 (hi 80)) hl b _ (fun hb => ?_) (fun hb => ?_)
  · skip
    refine V.qI (pc := 1) rfl rfl ?_
    refine V.if_ne (pc := 4) 9 dX8_sort_4 (by decide) (fun h4 => ?_) (fun hc => by exact absurd hc (by decide))
    refine V.iload_n (pc := 9) 2 dX8_sort_9 rfl ?_
    refine V.i2l (pc := 10) dX8_sort_10 ?_
    refine V.lconst (pc := 11) (z := 0) dX8_sort_11 (by decide +kernel) ⟨by decide, by decide⟩ ?_
    refine V.ldc2 (pc := 12) (z := 4) clX8_107 dX8_sort_12 ⟨by decide, by decide⟩ ?_
    refine V.callS (pc := 15) (e1 := eX8_in) 3 [vL v, vL 0, vL 4] [] mfX8_in slX8_in mlX8_72 dX8_sort_15 rfl rfl (Nat.le_of_ble_eq_true rfl) ⟨by decide, by decide, by decide, by decide⟩ ?_
    refine c_X8_in KW (upR hi 80 (hi 80)) hl v 0 4 _ (fun hinv => ?_) (fun hinv => ?_)
    · skip
      refine V.qI (pc := 15) rfl rfl ?_
      refine V.if_ne (pc := 18) 24 dX8_sort_18 (by decide) (fun h18 => ?_) (fun hc => by exact absurd hc (by decide))
      obtain ⟨n, rfl⟩ : ∃ n : Nat, b = (n : Int) := ⟨b.toNat, by omega⟩
      obtain ⟨w, rfl⟩ : ∃ w : Nat, v = (w : Int) := ⟨v.toNat, by omega⟩
      refine V.aload_n (pc := 24) 0 dX8_sort_24 rfl ?_
      refine V.gr (pc := 25) 8 4 80 flX8_16 dX8_sort_25 (kS_77) (by decide) (by decide) rfl (kR_77_4) ?_
      refine V.iload_n (pc := 28) 1 dX8_sort_28 rfl ?_
      refine V.ia (pc := 29) (len := 6) n ((so σ n : Nat) : Int) dX8_sort_29 (kS_80) (rfl) (by omega) (hC.2.1 n (by omega)) ?_
      refine V.istore_n (pc := 30) (i := 3) dX8_sort_30 rfl (by decide) (ls' := [(3, vI ((so σ n : Nat) : Int)), (0, vR 77), (1, vI ((n : Nat) : Int)), (2, vI ((w : Nat) : Int))]) rfl ?_
      refine V.aload_n (pc := 31) 1 dX8_sort_31 rfl ?_
      refine V.gr (pc := 32) 8 4 80 flX8_16 dX8_sort_32 (kS_77) (by decide) (by decide) rfl (kR_77_4) ?_
      refine V.iload_n (pc := 35) 2 dX8_sort_35 rfl ?_
      refine V.iload_n (pc := 36) 3 dX8_sort_36 rfl ?_
      refine V.is (pc := 37) (len := 6) (hi' := (upR hi 80 (updF (hi 80) n ((w : Nat) : Int)))) n dX8_sort_37 (kS_80) (rfl) (by omega) u1 ?_
      refine V.iload_n (pc := 38) 0 dX8_sort_38 rfl ?_
      refine V.iret (pc := 39) (z := ((so σ n : Nat) : Int)) dX8_sort_39 rfl ?_
      have hA : aSort (σ, m, hi 85, im) (n : Int) (w : Int) = (so σ n : Nat) := by
        unfold aSort
        try dsimp only [gσ, gm, gg, gi]
        refine (if_neg (by first | omega | assumption)).trans ?_
        refine (if_neg (by first | omega | assumption)).trans ?_
        rfl
      rw [hA] at hq
      have hN : nSort (σ, m, hi 85, im) (n : Int) (w : Int) = ((updF σ.1 n w, σ.2), m, hi 85, im) := by
        unfold nSort
        try dsimp only [gσ, gm, gg, gi]
        refine (if_pos (by first | omega | assumption)).trans ?_
        rfl
      rw [hN] at hq
      exact hq _ _ (by repeat (first | exact gr0 | refine gr1 (by decide) ?_ | refine gr2 (by decide) ?_)) (RM_i (MR_so hC (by omega) (by omega)) (hm) (hm2) (rfl) (hgr) (k0) (k1) (k2) (k3))
    · skip
      refine V.qI (pc := 15) rfl rfl ?_
      refine V.if_ne (pc := 18) 24 dX8_sort_18 (by decide) (fun hc => by exact absurd hc (by decide)) (fun h18 => ?_)
      refine V.bipush (pc := 21) (z := (-2)) dX8_sort_21 (by decide +kernel) ⟨by decide, by decide⟩ ?_
      refine V.iret (pc := 23) (z := (-2)) dX8_sort_23 rfl ?_
      rw [upR_id]
      have hA : aSort (σ, m, hi 85, im) b v = -2 := by
        unfold aSort
        try dsimp only [gσ, gm, gg, gi]
        refine (if_neg (by first | omega | assumption)).trans ?_
        refine (if_pos (by first | omega | assumption)).trans ?_
        rfl
      rw [hA] at hq
      have hN : nSort (σ, m, hi 85, im) b v = (σ, m, hi 85, im) := by
        unfold nSort
        try dsimp only [gσ, gm, gg, gi]
        refine (if_neg (by first | omega | assumption)).trans ?_
        rfl
      rw [hN] at hq
      exact hq _ _ (by repeat (first | exact gr0 | refine gr1 (by decide) ?_ | refine gr2 (by decide) ?_)) hR
  · skip
    refine V.qI (pc := 1) rfl rfl ?_
    refine V.if_ne (pc := 4) 9 dX8_sort_4 (by decide) (fun hc => by exact absurd hc (by decide)) (fun h4 => ?_)
    refine V.iconst (pc := 7) (z := (-1)) dX8_sort_7 rfl ⟨by decide, by decide⟩ ?_
    refine V.iret (pc := 8) (z := (-1)) dX8_sort_8 rfl ?_
    rw [upR_id]
    have hA : aSort (σ, m, hi 85, im) b v = -1 := by
      unfold aSort
      try dsimp only [gσ, gm, gg, gi]
      refine (if_pos (by first | omega | assumption)).trans ?_
      rfl
    rw [hA] at hq
    have hN : nSort (σ, m, hi 85, im) b v = (σ, m, hi 85, im) := by
      unfold nSort
      try dsimp only [gσ, gm, gg, gi]
      refine (if_neg (by first | omega | assumption)).trans ?_
      rfl
    rw [hN] at hq
    exact hq _ _ (by repeat (first | exact gr0 | refine gr1 (by decide) ?_ | refine gr2 (by decide) ?_)) hR

set_option maxRecDepth 100000 in
theorem c_X8_say (hi hl : HI) (σ : SG) (m : Nat) (g : Nat → Int) (im : Nat → Option SG) (hR : RMo hi hl (σ, m, g, im)) (s : Int) (Q : QT) (hq : ∀ hi' hl' : HI, FrM hi hl hi' hl' → RMo hi' hl' (nSay (σ, m, g, im) s) → Q (some (vI (aSay (σ, m, g, im) s))) KW hi' hl') : Con eX8_say [vR 77, vI s] KW hi hl Q := by
  refine Con.ofV (by decide +kernel) (Nat.le_of_ble_eq_true rfl) ?_
  show V eX8_say none KW 0 [(0, vR 77), (1, vI s)] [] hi hl 0 0 Q
  refine V.hieq (hi' := (upR (upR hi 77 (hi 77)) 85 (hi 85))) (by rw [upR_id, upR_id]) ?_
  obtain ⟨hC, ⟨hm, hm2, hg5, hgr⟩, k0, k1, k2, k3⟩ := RM_o hR
  subst hg5
  have hwf := hC.1
  have hn16 := hwf.2.2.1
  have hbg := hwf.2.2.2.2.1
  refine V.iload_n (pc := 0) 1 dX8_say_0 rfl ?_
  refine V.i2l (pc := 1) dX8_say_1 ?_
  refine V.ldc2 (pc := 2) (z := 33) clX8_109 dX8_say_2 ⟨by decide, by decide⟩ ?_
  refine V.ldc2 (pc := 5) (z := 126) clX8_111 dX8_say_5 ⟨by decide, by decide⟩ ?_
  refine V.callS (pc := 8) (e1 := eX8_in) 3 [vL s, vL 33, vL 126] [] mfX8_in slX8_in mlX8_72 dX8_say_8 rfl rfl (Nat.le_of_ble_eq_true rfl) ⟨by decide, by decide, by decide, by decide⟩ ?_
  refine c_X8_in KW (upR (upR hi 77 (hi 77)) 85 (hi 85)) hl s 33 126 _ (fun hin => ?_) (fun hin => ?_)
  · skip
    refine V.qI (pc := 8) rfl rfl ?_
    refine V.if_ne (pc := 11) 17 dX8_say_11 (by decide) (fun h11 => ?_) (fun hc => by exact absurd hc (by decide))
    refine V.aload_n (pc := 17) 0 dX8_say_17 rfl ?_
    refine V.gi (pc := 18) 8 13 ((m : Nat) : Int) flX8_113 dX8_say_18 (kS_77) (by decide) (by decide) rfl (hm) ?_
    refine V.bipush (pc := 21) (z := 48) dX8_say_21 (by decide +kernel) ⟨by decide, by decide⟩ ?_
    refine V.icmp_ne (pc := 23) 29 dX8_say_23 (by decide) (fun h23 => ?_) (fun h23 => ?_)
    · skip
      refine V.aload_n (pc := 29) 0 dX8_say_29 rfl ?_
      refine V.gr (pc := 30) 8 12 85 flX8_31 dX8_say_30 (kS_77) (by decide) (by decide) rfl (kR_77_12) ?_
      refine V.aload_n (pc := 33) 0 dX8_say_33 rfl ?_
      refine V.gi (pc := 34) 8 13 ((m : Nat) : Int) flX8_113 dX8_say_34 (kS_77) (by decide) (by decide) rfl (hm) ?_
      refine V.iload_n (pc := 37) 1 dX8_say_37 rfl ?_
      refine V.is (pc := 38) (len := 48) (hi' := (upR (upR hi 77 (hi 77)) 85 (updF (hi 85) m s))) m dX8_say_38 (kS_85) (rfl) (by omega) u1 ?_
      refine V.aload_n (pc := 39) 0 dX8_say_39 rfl ?_
      refine V.dup (pc := 40) dX8_say_40 rfl ?_
      refine V.gi (pc := 41) 8 13 ((m : Nat) : Int) flX8_113 dX8_say_41 (kS_77) (by decide) (by decide) rfl (hm) ?_
      refine V.iconst (pc := 44) (z := 1) dX8_say_44 rfl ⟨by decide, by decide⟩ ?_
      refine V.iadd (pc := 45) ((((m + 1) : Nat) : Int)) dX8_say_45 (addN (a := m) (b := 1) (by omega)) ?_
      refine V.pi (pc := 46) (hi' := (upR (upR hi 77 (updF (hi 77) 13 (((m + 1) : Nat) : Int))) 85 (updF (hi 85) m s))) 8 13 flX8_113 dX8_say_46 (kS_77) (by decide) (by decide) rfl rfl (us (by decide) u1) ?_
      refine V.aload_n (pc := 49) 0 dX8_say_49 rfl ?_
      refine V.gi (pc := 50) 8 13 (((m + 1) : Nat) : Int) flX8_113 dX8_say_50 (kS_77) (by decide) (by decide) rfl (rfl) ?_
      refine V.iret (pc := 53) (z := (((m + 1) : Nat) : Int)) dX8_say_53 rfl ?_
      have hA : aSay (σ, m, hi 85, im) s = ((m + 1 : Nat) : Int) := by
        unfold aSay
        try dsimp only [gσ, gm, gg, gi]
        refine (if_neg (by first | omega | assumption)).trans ?_
        refine (if_neg (by first | omega | assumption)).trans ?_
        rfl
      rw [hA] at hq
      have hN : nSay (σ, m, hi 85, im) s = (σ, m + 1, updF (hi 85) m s, im) := by
        unfold nSay
        try dsimp only [gσ, gm, gg, gi]
        refine (if_pos (by first | omega | assumption)).trans ?_
        rfl
      rw [hN] at hq
      exact hq _ _ (by repeat (first | exact gr0 | refine gr1 (by decide) ?_ | refine gr2 (by decide) ?_)) (RM_i (MR_up hC rfl rfl rfl rfl rfl rfl rfl rfl) (by show updF (hi 77) 13 ((m + 1 : Nat) : Int) 13 = _; exact updF_s) (by omega) (rfl) (fun i hi' => by by_cases e : i = m; { subst e; show 33 ≤ updF (hi 85) i s i ∧ updF (hi 85) i s i ≤ 126; rw [updF_s]; omega }; { show 33 ≤ updF (hi 85) m s i ∧ updF (hi 85) m s i ≤ 126; rw [updF_n e]; exact hgr i (by omega) }) (k0) (k1) (k2) (k3))
    · skip
      refine V.bipush (pc := 26) (z := (-4)) dX8_say_26 (by decide +kernel) ⟨by decide, by decide⟩ ?_
      refine V.iret (pc := 28) (z := (-4)) dX8_say_28 rfl ?_
      rw [upR_id, upR_id]
      have hA : aSay (σ, m, hi 85, im) s = -4 := by
        unfold aSay
        try dsimp only [gσ, gm, gg, gi]
        refine (if_neg (by first | omega | assumption)).trans ?_
        refine (if_pos (by first | omega | assumption)).trans ?_
        rfl
      rw [hA] at hq
      have hN : nSay (σ, m, hi 85, im) s = (σ, m, hi 85, im) := by
        unfold nSay
        try dsimp only [gσ, gm, gg, gi]
        refine (if_neg (by first | omega | assumption)).trans ?_
        rfl
      rw [hN] at hq
      exact hq _ _ (by repeat (first | exact gr0 | refine gr1 (by decide) ?_ | refine gr2 (by decide) ?_)) hR
  · skip
    refine V.qI (pc := 8) rfl rfl ?_
    refine V.if_ne (pc := 11) 17 dX8_say_11 (by decide) (fun hc => by exact absurd hc (by decide)) (fun h11 => ?_)
    refine V.bipush (pc := 14) (z := (-2)) dX8_say_14 (by decide +kernel) ⟨by decide, by decide⟩ ?_
    refine V.iret (pc := 16) (z := (-2)) dX8_say_16 rfl ?_
    rw [upR_id, upR_id]
    have hA : aSay (σ, m, hi 85, im) s = -2 := by
      unfold aSay
      try dsimp only [gσ, gm, gg, gi]
      refine (if_pos (by first | omega | assumption)).trans ?_
      rfl
    rw [hA] at hq
    have hN : nSay (σ, m, hi 85, im) s = (σ, m, hi 85, im) := by
      unfold nSay
      try dsimp only [gσ, gm, gg, gi]
      refine (if_neg (by first | omega | assumption)).trans ?_
      rfl
    rw [hN] at hq
    exact hq _ _ (by repeat (first | exact gr0 | refine gr1 (by decide) ?_ | refine gr2 (by decide) ?_)) hR

set_option maxRecDepth 100000 in
theorem c_X8_wipe (hi hl : HI) (σ : SG) (m : Nat) (g : Nat → Int) (im : Nat → Option SG) (hR : RMo hi hl (σ, m, g, im))  (Q : QT) (hq : ∀ hi' hl' : HI, FrM hi hl hi' hl' → RMo hi' hl' (wipeG (σ, m, g, im) ) → Q (some (vI (aWipe (σ, m, g, im) ))) KW hi' hl') : Con eX8_wipe [vR 77] KW hi hl Q := by
  refine Con.ofV (by decide +kernel) (Nat.le_of_ble_eq_true rfl) ?_
  show V eX8_wipe none KW 0 [(0, vR 77)] [] hi hl 0 0 Q
  refine V.hieq (hi' := (upR hi 77 (hi 77))) (by rw [upR_id]) ?_
  obtain ⟨hC, ⟨hm, hm2, hg5, hgr⟩, k0, k1, k2, k3⟩ := RM_o hR
  subst hg5
  have hwf := hC.1
  have hn16 := hwf.2.2.1
  have hbg := hwf.2.2.2.2.1
  refine V.aload_n (pc := 0) 0 dX8_wipe_0 rfl ?_
  refine V.gi (pc := 1) 8 13 ((m : Nat) : Int) flX8_113 dX8_wipe_1 (kS_77) (by decide) (by decide) rfl (hm) ?_
  refine V.istore_n (pc := 4) (i := 1) dX8_wipe_4 rfl (by decide) (ls' := [(1, vI ((m : Nat) : Int)), (0, vR 77)]) rfl ?_
  refine V.aload_n (pc := 5) 1 dX8_wipe_5 rfl ?_
  refine V.iconst (pc := 6) (z := 0) dX8_wipe_6 rfl ⟨by decide, by decide⟩ ?_
  refine V.pi (pc := 7) (hi' := (upR hi 77 (updF (hi 77) 13 0))) 8 13 flX8_113 dX8_wipe_7 (kS_77) (by decide) (by decide) rfl rfl u1 ?_
  refine V.iload_n (pc := 10) 0 dX8_wipe_10 rfl ?_
  refine V.iret (pc := 11) (z := ((m : Nat) : Int)) dX8_wipe_11 rfl ?_
  exact hq _ _ (by repeat (first | exact gr0 | refine gr1 (by decide) ?_ | refine gr2 (by decide) ?_)) (RM_i (MR_up hC rfl rfl rfl rfl rfl rfl rfl rfl) (by show updF (hi 77) 13 0 13 = _; exact updF_s) (by omega) (rfl) (fun i hi' => absurd hi' (Nat.not_lt_zero i)) (k0) (k1) (k2) (k3))

set_option maxRecDepth 100000 in
theorem c_X8_fault (hi hl : HI) (σ : SG) (m : Nat) (g : Nat → Int) (im : Nat → Option SG) (hR : RMo hi hl (σ, m, g, im)) (w : Int) (Q : QT) (hq : ∀ hi' hl' : HI, FrM hi hl hi' hl' → RMo hi' hl' (σ, m, g, im) → Q (some (vI (aFault (σ, m, g, im) w))) KW hi' hl') : Con eX8_fault [vR 77, vI w] KW hi hl Q := by
  refine Con.ofV (by decide +kernel) (Nat.le_of_ble_eq_true rfl) ?_
  show V eX8_fault none KW 0 [(0, vR 77), (1, vI w)] [] hi hl 0 0 Q
  obtain ⟨hC, ⟨hm, hm2, hg5, hgr⟩, k0, k1, k2, k3⟩ := RM_o hR
  subst hg5
  have hwf := hC.1
  have hn16 := hwf.2.2.1
  have hbg := hwf.2.2.2.2.1
  refine V.iload_n (pc := 0) 1 dX8_fault_0 rfl ?_
  refine V.if_ne (pc := 1) 11 dX8_fault_1 (by decide) (fun h1 => ?_) (fun h1 => ?_)
  · skip
    refine V.iload_n (pc := 11) 1 dX8_fault_11 rfl ?_
    refine V.iconst (pc := 12) (z := 1) dX8_fault_12 rfl ⟨by decide, by decide⟩ ?_
    refine V.icmp_ne (pc := 13) 23 dX8_fault_13 (by decide) (fun h13 => ?_) (fun h13 => ?_)
    · skip
      refine V.bipush (pc := 23) (z := (-2)) dX8_fault_23 (by decide +kernel) ⟨by decide, by decide⟩ ?_
      refine V.iret (pc := 25) (z := (-2)) dX8_fault_25 rfl ?_
      have hA : aFault (σ, m, hi 85, im) w = -2 := by
        unfold aFault
        try dsimp only [gσ, gm, gg, gi]
        refine (if_neg (by first | omega | assumption)).trans ?_
        refine (if_neg (by first | omega | assumption)).trans ?_
        rfl
      rw [hA] at hq
      exact hq _ _ (by repeat (first | exact gr0 | refine gr1 (by decide) ?_ | refine gr2 (by decide) ?_)) hR
    · skip
      refine V.aload_n (pc := 16) 0 dX8_fault_16 rfl ?_
      refine V.callV (pc := 17) (e1 := eX8_faultOfSaying) (o := 77) (c := 8) 0 [] [] mfX8_faultOfSaying slX8_faultOfSaying mlX8_135 dX8_fault_17 (kS_77) (by decide) rfl rfl rfl (Nat.le_of_ble_eq_true rfl) ⟨by decide, by decide, by decide, by decide⟩ ?_
      refine c_X8_faultOfSaying hi hl m hm hm2 _ ?_
      refine V.qI (pc := 17) rfl rfl ?_
      refine V.goto (pc := 20) 25 dX8_fault_20 (by decide) ?_
      refine V.iret (pc := 25) (z := (sayF (hi 85) m)) dX8_fault_25 rfl ?_
      have hA : aFault (σ, m, hi 85, im) w = sayF (hi 85) m := by
        unfold aFault
        try dsimp only [gσ, gm, gg, gi]
        refine (if_neg (by first | omega | assumption)).trans ?_
        refine (if_pos (by first | omega | assumption)).trans ?_
        rfl
      rw [hA] at hq
      exact hq _ _ (by repeat (first | exact gr0 | refine gr1 (by decide) ?_ | refine gr2 (by decide) ?_)) hR
  · skip
    refine V.aload_n (pc := 4) 0 dX8_fault_4 rfl ?_
    refine V.callV (pc := 5) (e1 := eX8_faultOfDays) (o := 77) (c := 8) 0 [] [] mfX8_faultOfDays slX8_faultOfDays mlX8_131 dX8_fault_5 (kS_77) (by decide) rfl rfl rfl (Nat.le_of_ble_eq_true rfl) ⟨by decide, by decide, by decide, by decide⟩ ?_
    refine c_X8_faultOfDays hi hl m hm hm2 hgr _ ?_
    refine V.qI (pc := 5) rfl rfl ?_
    refine V.goto (pc := 8) 25 dX8_fault_8 (by decide) ?_
    refine V.iret (pc := 25) (z := (dayF (hi 85) m)) dX8_fault_25 rfl ?_
    have hA : aFault (σ, m, hi 85, im) w = dayF (hi 85) m := by
      unfold aFault
      try dsimp only [gσ, gm, gg, gi]
      refine (if_pos (by first | omega | assumption)).trans ?_
      rfl
    rw [hA] at hq
    exact hq _ _ (by repeat (first | exact gr0 | refine gr1 (by decide) ?_ | refine gr2 (by decide) ?_)) hR

set_option maxRecDepth 100000 in
theorem c_X8_slips (hi hl : HI) (σ : SG) (m : Nat) (g : Nat → Int) (im : Nat → Option SG) (hR : RMo hi hl (σ, m, g, im)) (s : Int) (i : Int) (Q : QT) (hq : ∀ hi' hl' : HI, FrM hi hl hi' hl' → RMo hi' hl' (σ, m, g, im) → Q (some (vI (aSlips (σ, m, g, im) s i))) KW hi' hl') : Con eX8_slips [vR 77, vI s, vI i] KW hi hl Q := by
  refine Con.ofV (by decide +kernel) (Nat.le_of_ble_eq_true rfl) ?_
  show V eX8_slips none KW 0 [(0, vR 77), (1, vI s), (2, vI i)] [] hi hl 0 0 Q
  obtain ⟨hC, ⟨hm, hm2, hg5, hgr⟩, k0, k1, k2, k3⟩ := RM_o hR
  subst hg5
  have hwf := hC.1
  have hn16 := hwf.2.2.1
  have hbg := hwf.2.2.2.2.1
  have hsr := sayF_rng (hi 85) m
  
  refine V.iload_n (pc := 0) 1 dX8_slips_0 rfl ?_
  refine V.i2l (pc := 1) dX8_slips_1 ?_
  refine V.lconst (pc := 2) (z := 0) dX8_slips_2 (by decide +kernel) ⟨by decide, by decide⟩ ?_
  refine V.ldc2 (pc := 3) (z := 4) clX8_107 dX8_slips_3 ⟨by decide, by decide⟩ ?_
  refine V.callS (pc := 6) (e1 := eX8_in) 3 [vL s, vL 0, vL 4] [] mfX8_in slX8_in mlX8_72 dX8_slips_6 rfl rfl (Nat.le_of_ble_eq_true rfl) ⟨by decide, by decide, by decide, by decide⟩ ?_
  refine c_X8_in KW hi hl s 0 4 _ (fun hin => ?_) (fun hin => ?_)
  · skip
    refine V.qI (pc := 6) rfl rfl ?_
    refine V.if_ne (pc := 9) 15 dX8_slips_9 (by decide) (fun h9 => ?_) (fun hc => by exact absurd hc (by decide))
    obtain ⟨n, rfl⟩ : ∃ n : Nat, s = (n : Int) := ⟨s.toNat, by omega⟩
    refine V.aload_n (pc := 15) 0 dX8_slips_15 rfl ?_
    refine V.callV (pc := 16) (e1 := eX8_faultOfSaying) (o := 77) (c := 8) 0 [] [] mfX8_faultOfSaying slX8_faultOfSaying mlX8_135 dX8_slips_16 (kS_77) (by decide) rfl rfl rfl (Nat.le_of_ble_eq_true rfl) ⟨by decide, by decide, by decide, by decide⟩ ?_
    refine c_X8_faultOfSaying hi hl m hm hm2 _ ?_
    refine V.qI (pc := 16) rfl rfl ?_
    refine V.if_lt (pc := 19) 25 dX8_slips_19 (by decide) (fun h19 => ?_) (fun h19 => ?_)
    · have hsf : sayF (hi 85) m = -6 := by omega
      have hpv : padV (σ, m, hi 85, im) = (((f3 m + sayV (hi 85) m) : Nat) : Int) := padV_y hsf
      have hsl := padS_lt hsf
      refine V.aload_n (pc := 25) 0 dX8_slips_25 rfl ?_
      refine V.iload_n (pc := 26) 1 dX8_slips_26 rfl ?_
      refine V.aload_n (pc := 27) 0 dX8_slips_27 rfl ?_
      refine V.callV (pc := 28) (e1 := eX8_padSaying) (o := 77) (c := 8) 0 [] [vI ((n : Nat) : Int), vR 77] mfX8_padSaying slX8_padSaying mlX8_141 dX8_slips_28 (kS_77) (by decide) rfl rfl rfl (Nat.le_of_ble_eq_true rfl) ⟨by decide, by decide, by decide, by decide⟩ ?_
      refine c_X8_padSaying hi hl m hm hm2 hsf _ ?_
      refine V.qI (pc := 28) rfl rfl ?_
      refine V.callV (pc := 31) (e1 := eX8_findSlips) (o := 77) (c := 8) 2 [vI ((n : Nat) : Int), vI ((f3 m + sayV (hi 85) m : Nat) : Int)] [] mfX8_findSlips slX8_findSlips mlX8_144 dX8_slips_31 (kS_77) (by decide) rfl rfl rfl (Nat.le_of_ble_eq_true rfl) ⟨by decide, by decide, by decide, by decide⟩ ?_
      refine c_X8_findSlips hi hl n (f3 m + sayV (hi 85) m) (by omega) (by omega) _ (fun fs gs gw hs1 hs2 hs3 => ?_)
      have hs1 : ∀ j, j ≠ 1 → j ≠ 3 → fs j = (hi 77) j := hs1
      refine V.qV (pc := 31) rfl rfl ?_
      refine V.hieq (hi' := (upR (upR (upR hi 79 gs) 78 gw) 77 fs)) ((upR_c ((upR_c r0).trans (rs (by decide) r0))).trans (rs (by decide) (rs (by decide) r0))) ?_
      refine V.iload_n (pc := 34) 2 dX8_slips_34 rfl ?_
      refine V.if_ne (pc := 35) 45 dX8_slips_35 (by decide) (fun h35 => ?_) (fun h35 => ?_)
      · skip
        refine V.iload_n (pc := 45) 2 dX8_slips_45 rfl ?_
        refine V.i2l (pc := 46) dX8_slips_46 ?_
        refine V.lconst (pc := 47) (z := 1) dX8_slips_47 (by decide +kernel) ⟨by decide, by decide⟩ ?_
        refine V.aload_n (pc := 48) 0 dX8_slips_48 rfl ?_
        refine V.gi (pc := 49) 8 3 ((slN n (f3 m + sayV (hi 85) m) : Nat) : Int) flX8_90 dX8_slips_49 (kS_77) (by decide) (by decide) rfl (hs2) ?_
        refine V.i2l (pc := 52) dX8_slips_52 ?_
        refine V.callS (pc := 53) (e1 := eX8_in) 3 [vL i, vL 1, vL ((slN n (f3 m + sayV (hi 85) m) : Nat) : Int)] [] mfX8_in slX8_in mlX8_72 dX8_slips_53 rfl rfl (Nat.le_of_ble_eq_true rfl) ⟨by decide, by decide, by decide, by decide⟩ ?_
        refine c_X8_in KW (upR (upR (upR hi 79 gs) 78 gw) 77 fs) hl i 1 ((slN n (f3 m + sayV (hi 85) m) : Nat) : Int) _ (fun hini => ?_) (fun hini => ?_)
        · skip
          refine V.qI (pc := 53) rfl rfl ?_
          refine V.if_eq (pc := 56) 73 dX8_slips_56 (by decide) (fun hc => by exact absurd hc (by decide)) (fun h56 => ?_)
          obtain ⟨j, rfl⟩ : ∃ j : Nat, i = (j : Int) := ⟨i.toNat, by omega⟩
          refine V.aload_n (pc := 59) 0 dX8_slips_59 rfl ?_
          refine V.gr (pc := 60) 8 2 79 flX8_13 dX8_slips_60 (kS_77) (by decide) (by decide) rfl (kR_77_2) ?_
          refine V.iload_n (pc := 63) 2 dX8_slips_63 rfl ?_
          refine V.iconst (pc := 64) (z := 1) dX8_slips_64 rfl ⟨by decide, by decide⟩ ?_
          refine V.isub (pc := 65) ((((j - 1) : Nat) : Int)) dX8_slips_65 (subN (a := j) (b := 1) (by omega) (by have := slN_15 (s := n) (by omega) hsl; omega)) ?_
          refine V.ia (pc := 66) (len := 40) (j - 1) ((nth n (f3 m + sayV (hi 85) m) j : Nat) : Int) dX8_slips_66 (kS_79) (by omega) (by have := slN_15 (s := n) (by omega) hsl; omega) (by show gs (j - 1) = _; rw [nth_in (by omega)]; exact hs3 _ (by omega)) ?_
          have hnl := nth_lt (n := j) (show n ≤ 4 by omega) hsl
          refine V.callS (pc := 67) (e1 := eX8_wordsOf) 1 [vI ((nth n (f3 m + sayV (hi 85) m) j : Nat) : Int)] [] mfX8_wordsOf slX8_wordsOf mlX8_80 dX8_slips_67 rfl rfl (Nat.le_of_ble_eq_true rfl) ⟨by decide, by decide, by decide, by decide⟩ ?_
          refine c_X8_wordsOf KW (upR (upR (upR hi 79 gs) 78 gw) 77 fs) hl (nth n (f3 m + sayV (hi 85) m) j) (by omega) _ ?_
          refine V.qI (pc := 67) rfl rfl ?_
          refine V.goto (pc := 70) 75 dX8_slips_70 (by decide) ?_
          refine V.iret (pc := 75) (z := ((L3 (nth n (f3 m + sayV (hi 85) m) j) : Nat) : Int)) dX8_slips_75 rfl ?_
          have hA : aSlips (σ, m, hi 85, im) (n : Int) (j : Int) = (L3 (nth n (f3 m + sayV (hi 85) m) j) : Nat) := by
            unfold aSlips
            try dsimp only [gσ, gm, gg, gi]
            rw [hpv]
            refine (if_neg (by first | omega | assumption)).trans ?_
            refine (if_neg (by first | omega | assumption)).trans ?_
            refine (if_neg (by first | omega | assumption)).trans ?_
            refine (if_neg (show ¬ ¬ (1 ≤ (j : Int) ∧ (j : Int) ≤ (slN n (f3 m + sayV (hi 85) m) : Nat)) by omega)).trans ?_
            rfl
          rw [hA] at hq
          exact hq _ _ (by repeat (first | exact gr0 | refine gr1 (by decide) ?_ | refine gr2 (by decide) ?_)) (RM_up (hl := hl) hC hm hm2 hgr k0 k1 k2 k3 (hs1 8 (by decide) (by decide)) (hs1 9 (by decide) (by decide)) (hs1 11 (by decide) (by decide)) (hs1 13 (by decide) (by decide)) rfl rfl rfl rfl rfl rfl rfl rfl)
        · skip
          refine V.qI (pc := 53) rfl rfl ?_
          refine V.if_eq (pc := 56) 73 dX8_slips_56 (by decide) (fun h56 => ?_) (fun hc => by exact absurd hc (by decide))
          refine V.bipush (pc := 73) (z := (-6)) dX8_slips_73 (by decide +kernel) ⟨by decide, by decide⟩ ?_
          refine V.iret (pc := 75) (z := (-6)) dX8_slips_75 rfl ?_
          have hA : aSlips (σ, m, hi 85, im) (n : Int) i = -6 := by
            unfold aSlips
            try dsimp only [gσ, gm, gg, gi]
            rw [hpv]
            refine (if_neg (by first | omega | assumption)).trans ?_
            refine (if_neg (by first | omega | assumption)).trans ?_
            refine (if_neg (by first | omega | assumption)).trans ?_
            refine (if_pos (show ¬ (1 ≤ i ∧ i ≤ (slN n (f3 m + sayV (hi 85) m) : Nat)) by omega)).trans ?_
            rfl
          rw [hA] at hq
          exact hq _ _ (by repeat (first | exact gr0 | refine gr1 (by decide) ?_ | refine gr2 (by decide) ?_)) (RM_up (hl := hl) hC hm hm2 hgr k0 k1 k2 k3 (hs1 8 (by decide) (by decide)) (hs1 9 (by decide) (by decide)) (hs1 11 (by decide) (by decide)) (hs1 13 (by decide) (by decide)) rfl rfl rfl rfl rfl rfl rfl rfl)
      · skip
        refine V.aload_n (pc := 38) 0 dX8_slips_38 rfl ?_
        refine V.gi (pc := 39) 8 3 ((slN n (f3 m + sayV (hi 85) m) : Nat) : Int) flX8_90 dX8_slips_39 (kS_77) (by decide) (by decide) rfl (hs2) ?_
        refine V.goto (pc := 42) 75 dX8_slips_42 (by decide) ?_
        refine V.iret (pc := 75) (z := ((slN n (f3 m + sayV (hi 85) m) : Nat) : Int)) dX8_slips_75 rfl ?_
        have hA : aSlips (σ, m, hi 85, im) (n : Int) i = (slN n (f3 m + sayV (hi 85) m) : Nat) := by
          unfold aSlips
          try dsimp only [gσ, gm, gg, gi]
          rw [hpv]
          refine (if_neg (by first | omega | assumption)).trans ?_
          refine (if_neg (by first | omega | assumption)).trans ?_
          refine (if_pos (by first | omega | assumption)).trans ?_
          rfl
        rw [hA] at hq
        exact hq _ _ (by repeat (first | exact gr0 | refine gr1 (by decide) ?_ | refine gr2 (by decide) ?_)) (RM_up (hl := hl) hC hm hm2 hgr k0 k1 k2 k3 (hs1 8 (by decide) (by decide)) (hs1 9 (by decide) (by decide)) (hs1 11 (by decide) (by decide)) (hs1 13 (by decide) (by decide)) rfl rfl rfl rfl rfl rfl rfl rfl)
    · have hsf : sayF (hi 85) m ≠ -6 := by omega
      have hpv : padV (σ, m, hi 85, im) = -1 := padV_n hsf
      refine V.bipush (pc := 22) (z := (-5)) dX8_slips_22 (by decide +kernel) ⟨by decide, by decide⟩ ?_
      refine V.iret (pc := 24) (z := (-5)) dX8_slips_24 rfl ?_
      have hA : aSlips (σ, m, hi 85, im) (n : Int) i = -5 := by
        unfold aSlips
        try dsimp only [gσ, gm, gg, gi]
        refine (if_neg (by first | omega | assumption)).trans ?_
        refine (if_pos (by first | omega | assumption)).trans ?_
        rfl
      rw [hA] at hq
      exact hq _ _ (by repeat (first | exact gr0 | refine gr1 (by decide) ?_ | refine gr2 (by decide) ?_)) hR
  · skip
    refine V.qI (pc := 6) rfl rfl ?_
    refine V.if_ne (pc := 9) 15 dX8_slips_9 (by decide) (fun hc => by exact absurd hc (by decide)) (fun h9 => ?_)
    refine V.bipush (pc := 12) (z := (-2)) dX8_slips_12 (by decide +kernel) ⟨by decide, by decide⟩ ?_
    refine V.iret (pc := 14) (z := (-2)) dX8_slips_14 rfl ?_
    have hA : aSlips (σ, m, hi 85, im) s i = -2 := by
      unfold aSlips
      try dsimp only [gσ, gm, gg, gi]
      refine (if_pos (by first | omega | assumption)).trans ?_
      rfl
    rw [hA] at hq
    exact hq _ _ (by repeat (first | exact gr0 | refine gr1 (by decide) ?_ | refine gr2 (by decide) ?_)) hR

set_option maxRecDepth 100000 in
theorem c_X8_bargain (hi hl : HI) (σ : SG) (m : Nat) (g : Nat → Int) (im : Nat → Option SG) (hR : RMo hi hl (σ, m, g, im))  (Q : QT) (hq : ∀ hi' hl' : HI, FrM hi hl hi' hl' → RMo hi' hl' (nBarg (σ, m, g, im) ) → Q (some (vI (aBarg (σ, m, g, im) ))) KW hi' hl') : Con eX8_bargain [vR 77] KW hi hl Q := by
  refine Con.ofV (by decide +kernel) (Nat.le_of_ble_eq_true rfl) ?_
  show V eX8_bargain none KW 0 [(0, vR 77)] [] hi hl 0 0 Q
  refine V.hieq (hi' := (upR hi 77 (hi 77))) (by rw [upR_id]) ?_
  obtain ⟨hC, ⟨hm, hm2, hg5, hgr⟩, k0, k1, k2, k3⟩ := RM_o hR
  subst hg5
  have hwf := hC.1
  have hn16 := hwf.2.2.1
  have hbg := hwf.2.2.2.2.1
  have hsr := sayF_rng (hi 85) m
  
  refine V.aload_n (pc := 0) 0 dX8_bargain_0 rfl ?_
  refine V.callV (pc := 1) (e1 := eX8_faultOfSaying) (o := 77) (c := 8) 0 [] [] mfX8_faultOfSaying slX8_faultOfSaying mlX8_135 dX8_bargain_1 (kS_77) (by decide) rfl rfl rfl (Nat.le_of_ble_eq_true rfl) ⟨by decide, by decide, by decide, by decide⟩ ?_
  refine c_X8_faultOfSaying (upR hi 77 (hi 77)) hl m hm hm2 _ ?_
  refine V.qI (pc := 1) rfl rfl ?_
  refine V.top (v' := vI (sayF (hi 85) m)) (rfl) ?_
  refine V.if_lt (pc := 4) 10 dX8_bargain_4 (by decide) (fun h4 => ?_) (fun h4 => ?_)
  · have hsf : sayF (hi 85) m = -6 := by omega
    have hpv : padV (σ, m, hi 85, im) = (((f3 m + sayV (hi 85) m) : Nat) : Int) := padV_y hsf
    have hsl := padS_lt hsf
    refine V.aload_n (pc := 10) 0 dX8_bargain_10 rfl ?_
    refine V.aload_n (pc := 11) 0 dX8_bargain_11 rfl ?_
    refine V.callV (pc := 12) (e1 := eX8_padSaying) (o := 77) (c := 8) 0 [] [vR 77] mfX8_padSaying slX8_padSaying mlX8_141 dX8_bargain_12 (kS_77) (by decide) rfl rfl rfl (Nat.le_of_ble_eq_true rfl) ⟨by decide, by decide, by decide, by decide⟩ ?_
    refine c_X8_padSaying (upR hi 77 (hi 77)) hl m hm hm2 hsf _ ?_
    refine V.qI (pc := 12) rfl rfl ?_
    refine V.pi (pc := 15) (hi' := (upR hi 77 (updF (hi 77) 9 ((f3 m + sayV (hi 85) m : Nat) : Int)))) 8 9 flX8_147 dX8_bargain_15 (kS_77) (by decide) (by decide) rfl rfl u1 ?_
    refine V.aload_n (pc := 18) 0 dX8_bargain_18 rfl ?_
    refine V.iconst (pc := 19) (z := 0) dX8_bargain_19 rfl ⟨by decide, by decide⟩ ?_
    refine V.pi (pc := 20) (hi' := (upR hi 77 (updF (updF (hi 77) 9 ((f3 m + sayV (hi 85) m : Nat) : Int)) 13 0))) 8 13 flX8_113 dX8_bargain_20 (kS_77) (by decide) (by decide) rfl rfl u1 ?_
    refine V.aload_n (pc := 23) 0 dX8_bargain_23 rfl ?_
    refine V.gi (pc := 24) 8 9 (((f3 m + sayV (hi 85) m) : Nat) : Int) flX8_147 dX8_bargain_24 (kS_77) (by decide) (by decide) rfl (rfl) ?_
    refine V.callS (pc := 27) (e1 := eX8_wordsOf) 1 [vI (((f3 m + sayV (hi 85) m) : Nat) : Int)] [] mfX8_wordsOf slX8_wordsOf mlX8_80 dX8_bargain_27 rfl rfl (Nat.le_of_ble_eq_true rfl) ⟨by decide, by decide, by decide, by decide⟩ ?_
    refine c_X8_wordsOf KW (upR hi 77 (updF (updF (hi 77) 9 ((f3 m + sayV (hi 85) m : Nat) : Int)) 13 0)) hl (f3 m + sayV (hi 85) m) (by omega) _ ?_
    refine V.qI (pc := 27) rfl rfl ?_
    refine V.iret (pc := 30) (z := ((L3 (f3 m + sayV (hi 85) m) : Nat) : Int)) dX8_bargain_30 rfl ?_
    have hA : aBarg (σ, m, hi 85, im)  = (L3 (f3 m + sayV (hi 85) m) : Nat) := by
      unfold aBarg
      try dsimp only [gσ, gm, gg, gi]
      rw [hpv]
      refine (if_neg (by first | omega | assumption)).trans ?_
      rfl
    rw [hA] at hq
    have hN : nBarg (σ, m, hi 85, im)  = (setBg σ (f3 m + sayV (hi 85) m), 0, hi 85, im) := by
      unfold nBarg
      try dsimp only [gσ, gm, gg, gi]
      rw [hpv]
      refine (if_neg (by first | omega | assumption)).trans ?_
      rfl
    rw [hN] at hq
    exact hq _ _ (by repeat (first | exact gr0 | refine gr1 (by decide) ?_ | refine gr2 (by decide) ?_)) (RM_i (MR_bg hC hsl (by show updF (updF (hi 77) 9 _) 13 0 9 = _; rw [updF_n (by decide)]; exact updF_s) rfl rfl rfl rfl rfl rfl rfl) (by show updF (updF (hi 77) 9 (((f3 m + sayV (hi 85) m) : Nat) : Int)) 13 0 13 = _; exact updF_s) (by omega) (rfl) (fun i hi' => absurd hi' (Nat.not_lt_zero i)) (k0) (k1) (k2) (k3))
  · have hsf : sayF (hi 85) m ≠ -6 := by omega
    have hpv : padV (σ, m, hi 85, im) = -1 := padV_n hsf
    refine V.bipush (pc := 7) (z := (-5)) dX8_bargain_7 (by decide +kernel) ⟨by decide, by decide⟩ ?_
    refine V.iret (pc := 9) (z := (-5)) dX8_bargain_9 rfl ?_
    rw [upR_id]
    have hA : aBarg (σ, m, hi 85, im)  = -5 := by
      unfold aBarg
      try dsimp only [gσ, gm, gg, gi]
      refine (if_pos (by first | omega | assumption)).trans ?_
      rfl
    rw [hA] at hq
    have hN : nBarg (σ, m, hi 85, im)  = (σ, m, hi 85, im) := by
      unfold nBarg
      try dsimp only [gσ, gm, gg, gi]
      refine (if_pos (by first | omega | assumption)).trans ?_
      rfl
    rw [hN] at hq
    exact hq _ _ (by repeat (first | exact gr0 | refine gr1 (by decide) ?_ | refine gr2 (by decide) ?_)) hR

set_option maxRecDepth 100000 in
theorem c_X8_says (hi hl : HI) (σ : SG) (m : Nat) (g : Nat → Int) (im : Nat → Option SG) (hR : RMo hi hl (σ, m, g, im)) (b : Int) (i : Int) (hi0 : -2147483648 ≤ i ∧ i < 2147483648) (Q : QT) (hq : ∀ hi' hl' : HI, FrM hi hl hi' hl' → RMo hi' hl' (σ, m, g, im) → Q (some (vI (aSays (σ, m, g, im) b i))) KW hi' hl') : Con eX8_says [vR 77, vI b, vI i] KW hi hl Q := by
  refine Con.ofV (by decide +kernel) (Nat.le_of_ble_eq_true rfl) ?_
  show V eX8_says none KW 0 [(0, vR 77), (1, vI b), (2, vI i)] [] hi hl 0 0 Q
  obtain ⟨hC, ⟨hm, hm2, hg5, hgr⟩, k0, k1, k2, k3⟩ := RM_o hR
  subst hg5
  have hwf := hC.1
  have hn16 := hwf.2.2.1
  have hbg := hwf.2.2.2.2.1
  refine V.iload_n (pc := 0) 1 dX8_says_0 rfl ?_
  refine V.callS (pc := 1) (e1 := eX8_isBird) 1 [vI b] [] mfX8_isBird slX8_isBird mlX8_103 dX8_says_1 rfl rfl (Nat.le_of_ble_eq_true rfl) ⟨by decide, by decide, by decide, by decide⟩ ?_
  refine c_X8_isBird KW hi hl b _ (fun hb => ?_) (fun hb => ?_)
  · skip
    refine V.qI (pc := 1) rfl rfl ?_
    refine V.if_ne (pc := 4) 9 dX8_says_4 (by decide) (fun h4 => ?_) (fun hc => by exact absurd hc (by decide))
    obtain ⟨n, rfl⟩ : ∃ n : Nat, b = (n : Int) := ⟨b.toNat, by omega⟩
    refine V.aload_n (pc := 9) 0 dX8_says_9 rfl ?_
    refine V.aload_n (pc := 10) 0 dX8_says_10 rfl ?_
    refine V.gi (pc := 11) 8 9 ((bg σ : Nat) : Int) flX8_147 dX8_says_11 (kS_77) (by decide) (by decide) rfl (hC.2.2.2.2.2.1) ?_
    refine V.bipush (pc := 14) (z := (-6)) dX8_says_14 (by decide +kernel) ⟨by decide, by decide⟩ ?_
    refine V.iconst (pc := 16) (z := 0) dX8_says_16 rfl ⟨by decide, by decide⟩ ?_
    refine V.callV (pc := 17) (e1 := eX8_goDay) (o := 77) (c := 8) 3 [vI ((bg σ : Nat) : Int), vI (-6), vI 0] [] mfX8_goDay slX8_goDay mlX8_164 dX8_says_17 (kS_77) (by decide) rfl rfl rfl (Nat.le_of_ble_eq_true rfl) ⟨by decide, by decide, by decide, by decide⟩ ?_
    refine c_X8_goDay hi hl σ hC (bg σ) (by omega) (-6) 0 _ (fun f77 f86 f87 f78 f79 hgd hgW => ?_)
    refine V.qV (pc := 17) rfl rfl ?_
    refine V.hieq (hi' := (upR (upR (upR (upR (upR hi 79 f79) 78 f78) 87 f87) 86 f86) 77 f77)) ((upR_c ((upR_c ((upR_c ((upR_c r0).trans (rs (by decide) r0))).trans (rs (by decide) (rs (by decide) r0)))).trans (rs (by decide) (rs (by decide) (rs (by decide) r0))))).trans (rs (by decide) (rs (by decide) (rs (by decide) (rs (by decide) r0))))) ?_
    have hgW : WM f77 f86 f87 (wD σ) (nn σ) := hgW
    refine V.aload_n (pc := 20) 0 dX8_says_20 rfl ?_
    refine V.aload_n (pc := 21) 0 dX8_says_21 rfl ?_
    refine V.gr (pc := 22) 8 14 86 flX8_34 dX8_says_22 (kS_77) (by decide) (by decide) rfl (kR_77_14) ?_
    refine V.iload_n (pc := 25) 1 dX8_says_25 rfl ?_
    refine V.ia (pc := 26) (len := 6) n (encM ((wD σ).1 n)) dX8_says_26 (kS_86) (rfl) (by omega) (hgW.2.1 n (by omega)) ?_
    refine V.iload_n (pc := 27) 2 dX8_says_27 rfl ?_
    refine V.callV (pc := 28) (e1 := eX8_signAt) (o := 77) (c := 8) 2 [vI (encM ((wD σ).1 n)), vI i] [] mfX8_signAt slX8_signAt mlX8_168 dX8_says_28 (kS_77) (by decide) rfl rfl rfl (Nat.le_of_ble_eq_true rfl) ⟨by decide, by decide, by decide, by decide⟩ ?_
    refine c_X8_signAt (upR (upR (upR (upR (upR hi 79 f79) 78 f78) 87 f87) 86 f86) 77 f77) hl ((wD σ).1 n) (hgW.1.1 n) i (hi0) _ (fun fs gs hfs => ?_)
    refine V.qI (pc := 28) rfl rfl ?_
    refine V.hieq (hi' := (upR (upR (upR (upR (upR hi 79 f79) 78 gs) 87 f87) 86 f86) 77 fs)) ((upR_c r1).trans (rs (by decide) (rs (by decide) (rs (by decide) r1)))) ?_
    refine V.iret (pc := 31) (z := (wordO (encC ((wD σ).1 n)) i)) dX8_says_31 rfl ?_
    have hA : aSays (σ, m, hi 85, im) (n : Int) i = wordO (encC ((wD σ).1 n)) i := by
      unfold aSays
      try dsimp only [gσ, gm, gg, gi]
      refine (if_neg (by first | omega | assumption)).trans ?_
      rfl
    rw [hA] at hq
    exact hq _ _ (by repeat (first | exact gr0 | refine gr1 (by decide) ?_ | refine gr2 (by decide) ?_)) (RM_up (hl := hl) hC hm hm2 hgr k0 k1 k2 k3 ((hfs 8 (by decide)).trans (hgd 8 (by decide) (by decide) (by decide))) ((hfs 9 (by decide)).trans (hgd 9 (by decide) (by decide) (by decide))) ((hfs 11 (by decide)).trans (hgd 11 (by decide) (by decide) (by decide))) ((hfs 13 (by decide)).trans (hgd 13 (by decide) (by decide) (by decide))) rfl rfl rfl rfl rfl rfl rfl rfl)
  · skip
    refine V.qI (pc := 1) rfl rfl ?_
    refine V.if_ne (pc := 4) 9 dX8_says_4 (by decide) (fun hc => by exact absurd hc (by decide)) (fun h4 => ?_)
    refine V.iconst (pc := 7) (z := (-1)) dX8_says_7 rfl ⟨by decide, by decide⟩ ?_
    refine V.iret (pc := 8) (z := (-1)) dX8_says_8 rfl ?_
    have hA : aSays (σ, m, hi 85, im) b i = -1 := by
      unfold aSays
      try dsimp only [gσ, gm, gg, gi]
      refine (if_pos (by first | omega | assumption)).trans ?_
      rfl
    rw [hA] at hq
    exact hq _ _ (by repeat (first | exact gr0 | refine gr1 (by decide) ?_ | refine gr2 (by decide) ?_)) hR

set_option maxRecDepth 100000 in
theorem c_X8_testify (hi hl : HI) (σ : SG) (m : Nat) (g : Nat → Int) (im : Nat → Option SG) (hR : RMo hi hl (σ, m, g, im)) (b : Int) (Q : QT) (hq : ∀ hi' hl' : HI, FrM hi hl hi' hl' → RMo hi' hl' (nTest (σ, m, g, im) b) → Q (some (vI (aTest (σ, m, g, im) b))) KW hi' hl') : Con eX8_testify [vR 77, vI b] KW hi hl Q := by
  refine Con.ofV (by decide +kernel) (Nat.le_of_ble_eq_true rfl) ?_
  show V eX8_testify none KW 0 [(0, vR 77), (1, vI b)] [] hi hl 0 0 Q
  refine V.hieq (hi' := (upR (upR hi 77 (hi 77)) 84 (hi 84))) (by rw [upR_id, upR_id]) ?_
  obtain ⟨hC, ⟨hm, hm2, hg5, hgr⟩, k0, k1, k2, k3⟩ := RM_o hR
  subst hg5
  have hwf := hC.1
  have hn16 := hwf.2.2.1
  have hbg := hwf.2.2.2.2.1
  have hsr := sayF_rng (hi 85) m
  
  refine V.iload_n (pc := 0) 1 dX8_testify_0 rfl ?_
  refine V.callS (pc := 1) (e1 := eX8_isBird) 1 [vI b] [] mfX8_isBird slX8_isBird mlX8_103 dX8_testify_1 rfl rfl (Nat.le_of_ble_eq_true rfl) ⟨by decide, by decide, by decide, by decide⟩ ?_
  refine c_X8_isBird KW (upR (upR hi 77 (hi 77)) 84 (hi 84)) hl b _ (fun hb => ?_) (fun hb => ?_)
  · skip
    refine V.qI (pc := 1) rfl rfl ?_
    refine V.if_ne (pc := 4) 9 dX8_testify_4 (by decide) (fun h4 => ?_) (fun hc => by exact absurd hc (by decide))
    obtain ⟨n, rfl⟩ : ∃ n : Nat, b = (n : Int) := ⟨b.toNat, by omega⟩
    refine V.aload_n (pc := 9) 0 dX8_testify_9 rfl ?_
    refine V.callV (pc := 10) (e1 := eX8_faultOfSaying) (o := 77) (c := 8) 0 [] [] mfX8_faultOfSaying slX8_faultOfSaying mlX8_135 dX8_testify_10 (kS_77) (by decide) rfl rfl rfl (Nat.le_of_ble_eq_true rfl) ⟨by decide, by decide, by decide, by decide⟩ ?_
    refine c_X8_faultOfSaying (upR (upR hi 77 (hi 77)) 84 (hi 84)) hl m hm hm2 _ ?_
    refine V.qI (pc := 10) rfl rfl ?_
    refine V.top (v' := vI (sayF (hi 85) m)) (rfl) ?_
    refine V.if_lt (pc := 13) 19 dX8_testify_13 (by decide) (fun h13 => ?_) (fun h13 => ?_)
    · have hsf : sayF (hi 85) m = -6 := by omega
      have hpv : padV (σ, m, hi 85, im) = (((f3 m + sayV (hi 85) m) : Nat) : Int) := padV_y hsf
      have hsl := padS_lt hsf
      refine V.aload_n (pc := 19) 0 dX8_testify_19 rfl ?_
      refine V.gr (pc := 20) 8 10 84 flX8_28 dX8_testify_20 (kS_77) (by decide) (by decide) rfl (kR_77_10) ?_
      refine V.iload_n (pc := 23) 1 dX8_testify_23 rfl ?_
      refine V.aload_n (pc := 24) 0 dX8_testify_24 rfl ?_
      refine V.callV (pc := 25) (e1 := eX8_padSaying) (o := 77) (c := 8) 0 [] [vI ((n : Nat) : Int), vR 84] mfX8_padSaying slX8_padSaying mlX8_141 dX8_testify_25 (kS_77) (by decide) rfl rfl rfl (Nat.le_of_ble_eq_true rfl) ⟨by decide, by decide, by decide, by decide⟩ ?_
      refine c_X8_padSaying (upR (upR hi 77 (hi 77)) 84 (hi 84)) hl m hm hm2 hsf _ ?_
      refine V.qI (pc := 25) rfl rfl ?_
      refine V.is (pc := 28) (len := 6) (hi' := (upR (upR hi 77 (hi 77)) 84 (updF (hi 84) n ((f3 m + sayV (hi 85) m : Nat) : Int)))) n dX8_testify_28 (kS_84) (rfl) (by omega) u1 ?_
      refine V.aload_n (pc := 29) 0 dX8_testify_29 rfl ?_
      refine V.iconst (pc := 30) (z := 0) dX8_testify_30 rfl ⟨by decide, by decide⟩ ?_
      refine V.pi (pc := 31) (hi' := (upR (upR hi 77 (updF (hi 77) 13 0)) 84 (updF (hi 84) n ((f3 m + sayV (hi 85) m : Nat) : Int)))) 8 13 flX8_113 dX8_testify_31 (kS_77) (by decide) (by decide) rfl rfl (us (by decide) u1) ?_
      refine V.aload_n (pc := 34) 0 dX8_testify_34 rfl ?_
      refine V.gr (pc := 35) 8 10 84 flX8_28 dX8_testify_35 (kS_77) (by decide) (by decide) rfl (kR_77_10) ?_
      refine V.iload_n (pc := 38) 1 dX8_testify_38 rfl ?_
      refine V.ia (pc := 39) (len := 6) n (((f3 m + sayV (hi 85) m) : Nat) : Int) dX8_testify_39 (kS_84) (rfl) (by omega) (updF_s) ?_
      refine V.callS (pc := 40) (e1 := eX8_wordsOf) 1 [vI (((f3 m + sayV (hi 85) m) : Nat) : Int)] [] mfX8_wordsOf slX8_wordsOf mlX8_80 dX8_testify_40 rfl rfl (Nat.le_of_ble_eq_true rfl) ⟨by decide, by decide, by decide, by decide⟩ ?_
      refine c_X8_wordsOf KW (upR (upR hi 77 (updF (hi 77) 13 0)) 84 (updF (hi 84) n ((f3 m + sayV (hi 85) m : Nat) : Int))) hl (f3 m + sayV (hi 85) m) (by omega) _ ?_
      refine V.qI (pc := 40) rfl rfl ?_
      refine V.iret (pc := 43) (z := ((L3 (f3 m + sayV (hi 85) m) : Nat) : Int)) dX8_testify_43 rfl ?_
      have hA : aTest (σ, m, hi 85, im) (n : Int) = (L3 (f3 m + sayV (hi 85) m) : Nat) := by
        unfold aTest
        try dsimp only [gσ, gm, gg, gi]
        rw [hpv]
        refine (if_neg (by first | omega | assumption)).trans ?_
        refine (if_neg (by first | omega | assumption)).trans ?_
        rfl
      rw [hA] at hq
      have hN : nTest (σ, m, hi 85, im) (n : Int) = (setTe σ n (some (f3 m + sayV (hi 85) m)), 0, hi 85, im) := by
        unfold nTest
        try dsimp only [gσ, gm, gg, gi]
        rw [hpv]
        refine (if_neg (by first | omega | assumption)).trans ?_
        rfl
      rw [hN] at hq
      exact hq _ _ (by repeat (first | exact gr0 | refine gr1 (by decide) ?_ | refine gr2 (by decide) ?_)) (RM_i (MR_te hC (by omega) (fun v hv => by cases hv; exact hsl) rfl rfl rfl rfl rfl rfl rfl rfl rfl) (by show updF (hi 77) 13 0 13 = _; exact updF_s) (by omega) (rfl) (fun i hi' => absurd hi' (Nat.not_lt_zero i)) (k0) (k1) (k2) (k3))
    · have hsf : sayF (hi 85) m ≠ -6 := by omega
      have hpv : padV (σ, m, hi 85, im) = -1 := padV_n hsf
      refine V.bipush (pc := 16) (z := (-5)) dX8_testify_16 (by decide +kernel) ⟨by decide, by decide⟩ ?_
      refine V.iret (pc := 18) (z := (-5)) dX8_testify_18 rfl ?_
      rw [upR_id, upR_id]
      have hA : aTest (σ, m, hi 85, im) (n : Int) = -5 := by
        unfold aTest
        try dsimp only [gσ, gm, gg, gi]
        refine (if_neg (by first | omega | assumption)).trans ?_
        refine (if_pos (by first | omega | assumption)).trans ?_
        rfl
      rw [hA] at hq
      have hN : nTest (σ, m, hi 85, im) (n : Int) = (σ, m, hi 85, im) := by
        unfold nTest
        try dsimp only [gσ, gm, gg, gi]
        refine (if_pos (Or.inr hpv)).trans ?_
        rfl
      rw [hN] at hq
      exact hq _ _ (by repeat (first | exact gr0 | refine gr1 (by decide) ?_ | refine gr2 (by decide) ?_)) hR
  · skip
    refine V.qI (pc := 1) rfl rfl ?_
    refine V.if_ne (pc := 4) 9 dX8_testify_4 (by decide) (fun hc => by exact absurd hc (by decide)) (fun h4 => ?_)
    refine V.iconst (pc := 7) (z := (-1)) dX8_testify_7 rfl ⟨by decide, by decide⟩ ?_
    refine V.iret (pc := 8) (z := (-1)) dX8_testify_8 rfl ?_
    rw [upR_id, upR_id]
    have hA : aTest (σ, m, hi 85, im) b = -1 := by
      unfold aTest
      try dsimp only [gσ, gm, gg, gi]
      refine (if_pos (by first | omega | assumption)).trans ?_
      rfl
    rw [hA] at hq
    have hN : nTest (σ, m, hi 85, im) b = (σ, m, hi 85, im) := by
      unfold nTest
      try dsimp only [gσ, gm, gg, gi]
      refine (if_pos (Or.inl (by omega))).trans ?_
      rfl
    rw [hN] at hq
    exact hq _ _ (by repeat (first | exact gr0 | refine gr1 (by decide) ?_ | refine gr2 (by decide) ?_)) hR

set_option maxRecDepth 100000 in
theorem c_X8_unsay (hi hl : HI) (σ : SG) (m : Nat) (g : Nat → Int) (im : Nat → Option SG) (hR : RMo hi hl (σ, m, g, im)) (b : Int) (Q : QT) (hq : ∀ hi' hl' : HI, FrM hi hl hi' hl' → RMo hi' hl' (nUns (σ, m, g, im) b) → Q (some (vI (aUns (σ, m, g, im) b))) KW hi' hl') : Con eX8_unsay [vR 77, vI b] KW hi hl Q := by
  refine Con.ofV (by decide +kernel) (Nat.le_of_ble_eq_true rfl) ?_
  show V eX8_unsay none KW 0 [(0, vR 77), (1, vI b)] [] hi hl 0 0 Q
  refine V.hieq (hi' := (upR hi 84 (hi 84))) (by rw [upR_id]) ?_
  obtain ⟨hC, ⟨hm, hm2, hg5, hgr⟩, k0, k1, k2, k3⟩ := RM_o hR
  subst hg5
  have hwf := hC.1
  have hn16 := hwf.2.2.1
  have hbg := hwf.2.2.2.2.1
  refine V.iload_n (pc := 0) 1 dX8_unsay_0 rfl ?_
  refine V.callS (pc := 1) (e1 := eX8_isBird) 1 [vI b] [] mfX8_isBird slX8_isBird mlX8_103 dX8_unsay_1 rfl rfl (Nat.le_of_ble_eq_true rfl) ⟨by decide, by decide, by decide, by decide⟩ ?_
  refine c_X8_isBird KW (upR hi 84 (hi 84)) hl b _ (fun hb => ?_) (fun hb => ?_)
  · skip
    refine V.qI (pc := 1) rfl rfl ?_
    refine V.if_ne (pc := 4) 9 dX8_unsay_4 (by decide) (fun h4 => ?_) (fun hc => by exact absurd hc (by decide))
    obtain ⟨n, rfl⟩ : ∃ n : Nat, b = (n : Int) := ⟨b.toNat, by omega⟩
    refine V.aload_n (pc := 9) 0 dX8_unsay_9 rfl ?_
    refine V.gr (pc := 10) 8 10 84 flX8_28 dX8_unsay_10 (kS_77) (by decide) (by decide) rfl (kR_77_10) ?_
    refine V.iload_n (pc := 13) 1 dX8_unsay_13 rfl ?_
    refine V.ia (pc := 14) (len := 6) n (encM (te σ n)) dX8_unsay_14 (kS_84) (rfl) (by omega) (hC.2.2.1 n (by omega)) ?_
    refine V.if_ge (pc := 15) 22 dX8_unsay_15 (by decide) (fun h15 => ?_) (fun h15 => ?_)
    · have hvn : ¬ te σ n = none := by obtain ⟨v, hv⟩ := encM_s (show 0 ≤ encM (te σ n) by omega); rw [hv]; simp
      refine V.iconst (pc := 22) (z := 1) dX8_unsay_22 rfl ⟨by decide, by decide⟩ ?_
      refine V.istore_n (pc := 23) (i := 2) dX8_unsay_23 rfl (by decide) (ls' := [(2, vI 1), (0, vR 77), (1, vI ((n : Nat) : Int))]) rfl ?_
      refine V.aload_n (pc := 24) 1 dX8_unsay_24 rfl ?_
      refine V.gr (pc := 25) 8 10 84 flX8_28 dX8_unsay_25 (kS_77) (by decide) (by decide) rfl (kR_77_10) ?_
      refine V.iload_n (pc := 28) 2 dX8_unsay_28 rfl ?_
      refine V.bipush (pc := 29) (z := (-6)) dX8_unsay_29 (by decide +kernel) ⟨by decide, by decide⟩ ?_
      refine V.is (pc := 31) (len := 6) (hi' := (upR hi 84 (updF (hi 84) n (-6)))) n dX8_unsay_31 (kS_84) (rfl) (by omega) u1 ?_
      refine V.iload_n (pc := 32) 0 dX8_unsay_32 rfl ?_
      refine V.iret (pc := 33) (z := 1) dX8_unsay_33 rfl ?_
      have hA : aUns (σ, m, hi 85, im) (n : Int) = 1 := by
        unfold aUns
        try dsimp only [gσ, gm, gg, gi]
        refine (if_neg (by first | omega | assumption)).trans ?_
        refine (if_neg hvn).trans ?_
        rfl
      rw [hA] at hq
      have hN : nUns (σ, m, hi 85, im) (n : Int) = (setTe σ n none, m, hi 85, im) := by
        unfold nUns
        try dsimp only [gσ, gm, gg, gi]
        refine (if_neg (fun q => by rcases q with q | q; { omega }; { exact hvn q })).trans ?_
        rfl
      rw [hN] at hq
      exact hq _ _ (by repeat (first | exact gr0 | refine gr1 (by decide) ?_ | refine gr2 (by decide) ?_)) (RM_i (MR_te hC (by omega) (fun v hv => by cases hv) rfl rfl rfl rfl rfl rfl rfl rfl rfl) (hm) (hm2) (rfl) (hgr) (k0) (k1) (k2) (k3))
    · have hvn := encM_none.mp (show encM (te σ n) < 0 by omega)
      refine V.iconst (pc := 18) (z := 0) dX8_unsay_18 rfl ⟨by decide, by decide⟩ ?_
      refine V.goto (pc := 19) 23 dX8_unsay_19 (by decide) ?_
      refine V.istore_n (pc := 23) (i := 2) dX8_unsay_23 rfl (by decide) (ls' := [(2, vI 0), (0, vR 77), (1, vI ((n : Nat) : Int))]) rfl ?_
      refine V.aload_n (pc := 24) 1 dX8_unsay_24 rfl ?_
      refine V.gr (pc := 25) 8 10 84 flX8_28 dX8_unsay_25 (kS_77) (by decide) (by decide) rfl (kR_77_10) ?_
      refine V.iload_n (pc := 28) 2 dX8_unsay_28 rfl ?_
      refine V.bipush (pc := 29) (z := (-6)) dX8_unsay_29 (by decide +kernel) ⟨by decide, by decide⟩ ?_
      refine V.is (pc := 31) (len := 6) (hi' := (upR hi 84 (updF (hi 84) n (-6)))) n dX8_unsay_31 (kS_84) (rfl) (by omega) u1 ?_
      refine V.iload_n (pc := 32) 0 dX8_unsay_32 rfl ?_
      refine V.iret (pc := 33) (z := 0) dX8_unsay_33 rfl ?_
      have hA : aUns (σ, m, hi 85, im) (n : Int) = 0 := by
        unfold aUns
        try dsimp only [gσ, gm, gg, gi]
        refine (if_neg (by first | omega | assumption)).trans ?_
        refine (if_pos hvn).trans ?_
        rfl
      rw [hA] at hq
      have hN : nUns (σ, m, hi 85, im) (n : Int) = (σ, m, hi 85, im) := by
        unfold nUns
        try dsimp only [gσ, gm, gg, gi]
        refine (if_pos (Or.inr hvn)).trans ?_
        rfl
      rw [hN] at hq
      exact hq _ _ (by repeat (first | exact gr0 | refine gr1 (by decide) ?_ | refine gr2 (by decide) ?_)) (RM_i (MR_te0 hC (by omega) hvn rfl rfl rfl rfl rfl rfl rfl rfl) (hm) (hm2) (rfl) (hgr) (k0) (k1) (k2) (k3))
  · skip
    refine V.qI (pc := 1) rfl rfl ?_
    refine V.if_ne (pc := 4) 9 dX8_unsay_4 (by decide) (fun hc => by exact absurd hc (by decide)) (fun h4 => ?_)
    refine V.iconst (pc := 7) (z := (-1)) dX8_unsay_7 rfl ⟨by decide, by decide⟩ ?_
    refine V.iret (pc := 8) (z := (-1)) dX8_unsay_8 rfl ?_
    rw [upR_id]
    have hA : aUns (σ, m, hi 85, im) b = -1 := by
      unfold aUns
      try dsimp only [gσ, gm, gg, gi]
      refine (if_pos (by first | omega | assumption)).trans ?_
      rfl
    rw [hA] at hq
    have hN : nUns (σ, m, hi 85, im) b = (σ, m, hi 85, im) := by
      unfold nUns
      try dsimp only [gσ, gm, gg, gi]
      refine (if_pos (Or.inl (by omega))).trans ?_
      rfl
    rw [hN] at hq
    exact hq _ _ (by repeat (first | exact gr0 | refine gr1 (by decide) ?_ | refine gr2 (by decide) ?_)) hR

set_option maxRecDepth 100000 in
theorem c_X8_rare (hi hl : HI) (σ : SG) (m : Nat) (g : Nat → Int) (im : Nat → Option SG) (hR : RMo hi hl (σ, m, g, im)) (v : Int) (Q : QT) (hq : ∀ hi' hl' : HI, FrM hi hl hi' hl' → RMo hi' hl' (nRare (σ, m, g, im) v) → Q (some (vI (aRare (σ, m, g, im) v))) KW hi' hl') : Con eX8_rare [vR 77, vI v] KW hi hl Q := by
  refine Con.ofV (by decide +kernel) (Nat.le_of_ble_eq_true rfl) ?_
  show V eX8_rare none KW 0 [(0, vR 77), (1, vI v)] [] hi hl 0 0 Q
  refine V.hieq (hi' := (upR hi 77 (hi 77))) (by rw [upR_id]) ?_
  obtain ⟨hC, ⟨hm, hm2, hg5, hgr⟩, k0, k1, k2, k3⟩ := RM_o hR
  subst hg5
  have hwf := hC.1
  have hn16 := hwf.2.2.1
  have hbg := hwf.2.2.2.2.1
  refine V.iload_n (pc := 0) 1 dX8_rare_0 rfl ?_
  refine V.i2l (pc := 1) dX8_rare_1 ?_
  refine V.lconst (pc := 2) (z := 1) dX8_rare_2 (by decide +kernel) ⟨by decide, by decide⟩ ?_
  refine V.ldc2 (pc := 3) (z := 99) clX8_129 dX8_rare_3 ⟨by decide, by decide⟩ ?_
  refine V.callS (pc := 6) (e1 := eX8_in) 3 [vL v, vL 1, vL 99] [] mfX8_in slX8_in mlX8_72 dX8_rare_6 rfl rfl (Nat.le_of_ble_eq_true rfl) ⟨by decide, by decide, by decide, by decide⟩ ?_
  refine c_X8_in KW (upR hi 77 (hi 77)) hl v 1 99 _ (fun hin => ?_) (fun hin => ?_)
  · skip
    refine V.qI (pc := 6) rfl rfl ?_
    refine V.if_ne (pc := 9) 15 dX8_rare_9 (by decide) (fun h9 => ?_) (fun hc => by exact absurd hc (by decide))
    obtain ⟨w, rfl⟩ : ∃ w : Nat, v = (w : Int) := ⟨v.toNat, by omega⟩
    refine V.aload_n (pc := 15) 0 dX8_rare_15 rfl ?_
    refine V.gi (pc := 16) 8 11 ((ra σ : Nat) : Int) flX8_66 dX8_rare_16 (kS_77) (by decide) (by decide) rfl (hC.2.2.2.2.2.2) ?_
    refine V.istore_n (pc := 19) (i := 2) dX8_rare_19 rfl (by decide) (ls' := [(2, vI ((ra σ : Nat) : Int)), (0, vR 77), (1, vI ((w : Nat) : Int))]) rfl ?_
    refine V.aload_n (pc := 20) 1 dX8_rare_20 rfl ?_
    refine V.iload_n (pc := 21) 2 dX8_rare_21 rfl ?_
    refine V.pi (pc := 22) (hi' := (upR hi 77 (updF (hi 77) 11 ((w : Nat) : Int)))) 8 11 flX8_66 dX8_rare_22 (kS_77) (by decide) (by decide) rfl rfl u1 ?_
    refine V.iload_n (pc := 25) 0 dX8_rare_25 rfl ?_
    refine V.iret (pc := 26) (z := ((ra σ : Nat) : Int)) dX8_rare_26 rfl ?_
    have hA : aRare (σ, m, hi 85, im) (w : Int) = (ra σ : Nat) := by
      unfold aRare
      try dsimp only [gσ, gm, gg, gi]
      refine (if_neg (by first | omega | assumption)).trans ?_
      rfl
    rw [hA] at hq
    have hN : nRare (σ, m, hi 85, im) (w : Int) = (setRa σ w, m, hi 85, im) := by
      unfold nRare
      try dsimp only [gσ, gm, gg, gi]
      refine (if_neg (by first | omega | assumption)).trans ?_
      rfl
    rw [hN] at hq
    exact hq _ _ (by repeat (first | exact gr0 | refine gr1 (by decide) ?_ | refine gr2 (by decide) ?_)) (RM_i (MR_ra hC (by omega) (by show updF (hi 77) 11 ((w : Nat) : Int) 11 = _; exact updF_s) rfl rfl rfl rfl rfl rfl rfl) (hm) (hm2) (rfl) (hgr) (k0) (k1) (k2) (k3))
  · skip
    refine V.qI (pc := 6) rfl rfl ?_
    refine V.if_ne (pc := 9) 15 dX8_rare_9 (by decide) (fun hc => by exact absurd hc (by decide)) (fun h9 => ?_)
    refine V.bipush (pc := 12) (z := (-2)) dX8_rare_12 (by decide +kernel) ⟨by decide, by decide⟩ ?_
    refine V.iret (pc := 14) (z := (-2)) dX8_rare_14 rfl ?_
    rw [upR_id]
    have hA : aRare (σ, m, hi 85, im) v = -2 := by
      unfold aRare
      try dsimp only [gσ, gm, gg, gi]
      refine (if_pos (by first | omega | assumption)).trans ?_
      rfl
    rw [hA] at hq
    have hN : nRare (σ, m, hi 85, im) v = (σ, m, hi 85, im) := by
      unfold nRare
      try dsimp only [gσ, gm, gg, gi]
      refine (if_pos (by first | omega | assumption)).trans ?_
      rfl
    rw [hN] at hq
    exact hq _ _ (by repeat (first | exact gr0 | refine gr1 (by decide) ?_ | refine gr2 (by decide) ?_)) hR

set_option maxRecDepth 100000 in
theorem c_X8_days (hi hl : HI) (σ : SG) (m : Nat) (g : Nat → Int) (im : Nat → Option SG) (hR : RMo hi hl (σ, m, g, im))  (Q : QT) (hq : ∀ hi' hl' : HI, FrM hi hl hi' hl' → RMo hi' hl' (nDays (σ, m, g, im) ) → Q (some (vI (aDays (σ, m, g, im) ))) KW hi' hl') : Con eX8_days [vR 77] KW hi hl Q := by
  refine Con.ofV (by decide +kernel) (Nat.le_of_ble_eq_true rfl) ?_
  show V eX8_days none KW 0 [(0, vR 77)] [] hi hl 0 0 Q
  refine V.hieq (hi' := (upR (upR (upR (upR hi 77 (hi 77)) 81 (hi 81)) 82 (hi 82)) 83 (hi 83))) (by rw [upR_id, upR_id, upR_id, upR_id]) ?_
  obtain ⟨hC, ⟨hm, hm2, hg5, hgr⟩, k0, k1, k2, k3⟩ := RM_o hR
  subst hg5
  have hwf := hC.1
  have hn16 := hwf.2.2.1
  have hbg := hwf.2.2.2.2.1
  have hdr := dayF_rng (hi 85) m
  refine V.aload_n (pc := 0) 0 dX8_days_0 rfl ?_
  refine V.callV (pc := 1) (e1 := eX8_faultOfDays) (o := 77) (c := 8) 0 [] [] mfX8_faultOfDays slX8_faultOfDays mlX8_131 dX8_days_1 (kS_77) (by decide) rfl rfl rfl (Nat.le_of_ble_eq_true rfl) ⟨by decide, by decide, by decide, by decide⟩ ?_
  refine c_X8_faultOfDays (upR (upR (upR (upR hi 77 (hi 77)) 81 (hi 81)) 82 (hi 82)) 83 (hi 83)) hl m hm hm2 hgr _ ?_
  refine V.qI (pc := 1) rfl rfl ?_
  refine V.top (v' := vI (dayF (hi 85) m)) (rfl) ?_
  refine V.if_lt (pc := 4) 10 dX8_days_4 (by decide) (fun h4 => ?_) (fun h4 => ?_)
  · have hd : dayF (hi 85) m = -6 := by omega
    refine V.aload_n (pc := 10) 0 dX8_days_10 rfl ?_
    refine V.iconst (pc := 11) (z := 0) dX8_days_11 rfl ⟨by decide, by decide⟩ ?_
    refine V.pi (pc := 12) (hi' := (upR (upR (upR (upR hi 77 (updF (hi 77) 8 0)) 81 (hi 81)) 82 (hi 82)) 83 (hi 83))) 8 8 flX8_138 dX8_days_12 (kS_77) (by decide) (by decide) rfl rfl (us (by decide) (us (by decide) (us (by decide) u1))) ?_
    refine V.iconst (pc := 15) (z := 0) dX8_days_15 rfl ⟨by decide, by decide⟩ ?_
    refine V.istore_n (pc := 16) (i := 1) dX8_days_16 rfl (by decide) (ls' := [(1, vI 0), (0, vR 77)]) rfl ?_
    have lp17 : ∀ (fu17 : Nat) (i : Nat) (s : PSt) (f : Nat → Int) (A : Nat → Int) (B : Nat → Int) (D : Nat → Int), (i ≤ m) → (dF (hi 85) i = (-6, s)) → (s.1 = 0 ∨ s.1 = 3) → (s.1 = 3 → i < m → ¬ (49 ≤ hi 85 i ∧ hi 85 i ≤ 57)) → (f 8 = (s.2.2.1 : Nat)) → (∀ j, j ≠ 8 → j ≠ 13 → f j = hi 77 j) → (f 13 = hi 77 13) → (∀ j, j < s.2.2.1 → A j = s.2.2.2.1 j ∧ B j = s.2.2.2.2.1 j ∧ D j = s.2.2.2.2.2 j) → m - i < fu17 → V eX8_days none KW 17 [(0, vR 77), (1, vI ((i : Nat) : Int))] [] (upR (upR (upR (upR hi 77 f) 81 A) 82 B) 83 D) hl 0 0 Q := by
      intro fu17
      induction fu17 with
      | zero => intro i s f A B D hk hE hst hnd gf8 gfo gf13 hAg hm17; exact absurd hm17 (Nat.not_lt_zero _)
      | succ fu17 ih17 =>
        intro i s f A B D hk hE hst hnd gf8 gfo gf13 hAg hm17
        refine V.iload_n (pc := 17) 1 dX8_days_17 rfl ?_
        refine V.aload_n (pc := 18) 0 dX8_days_18 rfl ?_
        refine V.gi (pc := 19) 8 13 ((m : Nat) : Int) flX8_113 dX8_days_19 (kS_77) (by decide) (by decide) rfl (gf13.trans hm) ?_
        refine V.icmp_ge (pc := 22) 161 dX8_days_22 (by decide) (fun h22 => ?_) (fun h22 => ?_)
        · have him : i = m := by omega
          refine V.aload_n (pc := 161) 0 dX8_days_161 rfl ?_
          refine V.iconst (pc := 162) (z := 0) dX8_days_162 rfl ⟨by decide, by decide⟩ ?_
          refine V.pi (pc := 163) (hi' := (upR (upR (upR (upR hi 77 (updF f 13 0)) 81 A) 82 B) 83 D)) 8 13 flX8_113 dX8_days_163 (kS_77) (by decide) (by decide) rfl rfl (us (by decide) (us (by decide) (us (by decide) u1))) ?_
          refine V.aload_n (pc := 166) 0 dX8_days_166 rfl ?_
          refine V.gi (pc := 167) 8 8 ((s.2.2.1 : Nat) : Int) flX8_138 dX8_days_167 (kS_77) (by decide) (by decide) rfl (by show updF f 13 0 8 = _; rw [updF_n (by decide)]; exact gf8) ?_
          refine V.iret (pc := 170) (z := ((s.2.2.1 : Nat) : Int)) dX8_days_170 rfl ?_
          subst him
          have es : (dF (hi 85) i).2 = s := by rw [hE]
          have hA : aDays (σ, i, hi 85, im)  = (s.2.2.1 : Nat) := by
            unfold aDays
            try dsimp only [gσ, gm, gg, gi]
            refine (if_neg (by first | omega | assumption)).trans ?_
            show (((dF (hi 85) i).2.2.2.1 : Nat) : Int) = _
            rw [es]
          rw [hA] at hq
          have hN : nDays (σ, i, hi 85, im)  = (dSG σ (hi 85) i, 0, hi 85, im) := by
            unfold nDays
            try dsimp only [gσ, gm, gg, gi]
            refine (if_neg (by first | omega | assumption)).trans ?_
            rfl
          rw [hN] at hq
          exact hq _ _ (by repeat (first | exact gr0 | refine gr1 (by decide) ?_ | refine gr2 (by decide) ?_)) (RM_i (MR_days hC hd hE hAg (by show updF f 13 0 8 = _; rw [updF_n (by decide)]; exact gf8) rfl rfl rfl (by show updF f 13 0 9 = _; rw [updF_n (by decide)]; exact gfo 9 (by decide) (by decide)) (by show updF f 13 0 11 = _; rw [updF_n (by decide)]; exact gfo 11 (by decide) (by decide)) rfl rfl) (by show updF f 13 0 13 = _; exact updF_s) (by omega) (rfl) (fun i hi' => absurd hi' (Nat.not_lt_zero i)) (k0) (k1) (k2) (k3))
        · obtain ⟨dp1, dp2, dp3, dp4, dp5, dp6, dp7⟩ := dpart hd hE (show i < m by omega) hst (fun q => hnd q (by omega))
          have hgi := hgr i (by omega)
          refine V.aload_n (pc := 25) 0 dX8_days_25 rfl ?_
          refine V.gr (pc := 26) 8 12 85 flX8_31 dX8_days_26 (kS_77) (by decide) (by decide) rfl (kR_77_12) ?_
          refine V.iload_n (pc := 29) 1 dX8_days_29 rfl ?_
          refine V.ia (pc := 30) (len := 48) i (hi 85 i) dX8_days_30 (kS_85) (rfl) (by omega) (rfl) ?_
          refine V.istore_n (pc := 31) (i := 2) dX8_days_31 rfl (by decide) (ls' := [(2, vI (hi 85 i)), (0, vR 77), (1, vI ((i : Nat) : Int))]) rfl ?_
          refine V.aload_n (pc := 32) 1 dX8_days_32 rfl ?_
          refine V.gr (pc := 33) 8 5 81 flX8_19 dX8_days_33 (kS_77) (by decide) (by decide) rfl (kR_77_5) ?_
          refine V.aload_n (pc := 36) 1 dX8_days_36 rfl ?_
          refine V.gi (pc := 37) 8 8 ((s.2.2.1 : Nat) : Int) flX8_138 dX8_days_37 (kS_77) (by decide) (by decide) rfl (gf8) ?_
          refine V.iload_n (pc := 40) 0 dX8_days_40 rfl ?_
          refine V.bipush (pc := 41) (z := 88) dX8_days_41 (by decide +kernel) ⟨by decide, by decide⟩ ?_
          refine V.icmp_ne (pc := 43) 51 dX8_days_43 (by decide) (fun h43 => ?_) (fun h43 => ?_)
          · skip
            refine V.iload_n (pc := 51) 0 dX8_days_51 rfl ?_
            refine V.bipush (pc := 52) (z := 109) dX8_days_52 (by decide +kernel) ⟨by decide, by decide⟩ ?_
            refine V.icmp_ne (pc := 54) 62 dX8_days_54 (by decide) (fun h54 => ?_) (fun h54 => ?_)
            · skip
              refine V.iload_n (pc := 62) 0 dX8_days_62 rfl ?_
              refine V.bipush (pc := 63) (z := 65) dX8_days_63 (by decide +kernel) ⟨by decide, by decide⟩ ?_
              refine V.isub (pc := 65) (((hi 85 i) - 65)) dX8_days_65 (w32_of (by omega) (by omega) (by omega)) ?_
              refine V.top (v' := vI (spOf (hi 85 i))) (by rw [show spOf (hi 85 i) = hi 85 i - 65 from spOf_l (by by_cases q : 65 ≤ hi 85 i ∧ hi 85 i ≤ 70; { exact q }; { exact absurd (spOf_n (by omega)) dp1 })]) ?_
              refine V.is (pc := 66) (len := 16) (hi' := (upR (upR (upR (upR hi 77 f) 81 (updF A (s.2.2.1) (spOf (hi 85 i)))) 82 B) 83 D)) (s.2.2.1) dX8_days_66 (kS_81) (rfl) (by omega) (us (by decide) (us (by decide) u1)) ?_
              refine V.aload_n (pc := 67) 1 dX8_days_67 rfl ?_
              refine V.gr (pc := 68) 8 6 82 flX8_22 dX8_days_68 (kS_77) (by decide) (by decide) rfl (kR_77_6) ?_
              refine V.aload_n (pc := 71) 1 dX8_days_71 rfl ?_
              refine V.gi (pc := 72) 8 8 ((s.2.2.1 : Nat) : Int) flX8_138 dX8_days_72 (kS_77) (by decide) (by decide) rfl (gf8) ?_
              refine V.aload_n (pc := 75) 1 dX8_days_75 rfl ?_
              refine V.gr (pc := 76) 8 12 85 flX8_31 dX8_days_76 (kS_77) (by decide) (by decide) rfl (kR_77_12) ?_
              refine V.iload_n (pc := 79) 2 dX8_days_79 rfl ?_
              refine V.iconst (pc := 80) (z := 1) dX8_days_80 rfl ⟨by decide, by decide⟩ ?_
              refine V.iadd (pc := 81) ((((i + 1) : Nat) : Int)) dX8_days_81 (addN (a := i) (b := 1) (by omega)) ?_
              refine V.ia (pc := 82) (len := 48) (i + 1) (hi 85 (i + 1)) dX8_days_82 (kS_85) (rfl) (by omega) (rfl) ?_
              refine V.bipush (pc := 83) (z := 65) dX8_days_83 (by decide +kernel) ⟨by decide, by decide⟩ ?_
              refine V.isub (pc := 85) (((hi 85 (i + 1)) - 65)) dX8_days_85 (w32_of (by omega) (by omega) (by omega)) ?_
              refine V.is (pc := 86) (len := 16) (hi' := (upR (upR (upR (upR hi 77 f) 81 (updF A (s.2.2.1) (spOf (hi 85 i)))) 82 (updF B (s.2.2.1) ((hi 85 (i + 1)) - 65))) 83 D)) (s.2.2.1) dX8_days_86 (kS_82) (rfl) (by omega) (us (by decide) u1) ?_
              refine V.iinc (pc := 87) (r := ((i + 2 : Nat) : Int)) 2 dX8_days_87 rfl (w32_of (by omega) (by omega) (by omega)) (by decide) (ls' := [(1, vI ((i + 2 : Nat) : Int)), (2, vI (hi 85 i)), (0, vR 77)]) rfl ?_
              refine V.aload_n (pc := 90) 2 dX8_days_90 rfl ?_
              refine V.gr (pc := 91) 8 7 83 flX8_25 dX8_days_91 (kS_77) (by decide) (by decide) rfl (kR_77_7) ?_
              refine V.aload_n (pc := 94) 2 dX8_days_94 rfl ?_
              refine V.gi (pc := 95) 8 8 ((s.2.2.1 : Nat) : Int) flX8_138 dX8_days_95 (kS_77) (by decide) (by decide) rfl (gf8) ?_
              refine V.iconst (pc := 98) (z := 0) dX8_days_98 rfl ⟨by decide, by decide⟩ ?_
              refine V.is (pc := 99) (len := 16) (hi' := (upR (upR (upR (upR hi 77 f) 81 (updF A (s.2.2.1) (spOf (hi 85 i)))) 82 (updF B (s.2.2.1) ((hi 85 (i + 1)) - 65))) 83 (updF D (s.2.2.1) 0))) (s.2.2.1) dX8_days_99 (kS_83) (rfl) (by omega) u1 ?_
              refine V.iload_n (pc := 100) 0 dX8_days_100 rfl ?_
              refine V.aload_n (pc := 101) 2 dX8_days_101 rfl ?_
              refine V.gi (pc := 102) 8 13 ((m : Nat) : Int) flX8_113 dX8_days_102 (kS_77) (by decide) (by decide) rfl (gf13.trans hm) ?_
              refine V.icmp_ge (pc := 105) 148 dX8_days_105 (by decide) (fun h105 => ?_) (fun h105 => ?_)
              · skip
                refine V.aload_n (pc := 148) 2 dX8_days_148 rfl ?_
                refine V.dup (pc := 149) dX8_days_149 rfl ?_
                refine V.gi (pc := 150) 8 8 ((s.2.2.1 : Nat) : Int) flX8_138 dX8_days_150 (kS_77) (by decide) (by decide) rfl (gf8) ?_
                refine V.iconst (pc := 153) (z := 1) dX8_days_153 rfl ⟨by decide, by decide⟩ ?_
                refine V.iadd (pc := 154) ((((s.2.2.1 + 1) : Nat) : Int)) dX8_days_154 (addN (a := s.2.2.1) (b := 1) (by omega)) ?_
                refine V.pi (pc := 155) (hi' := (upR (upR (upR (upR hi 77 (updF f 8 (((s.2.2.1 + 1) : Nat) : Int))) 81 (updF A (s.2.2.1) (spOf (hi 85 i)))) 82 (updF B (s.2.2.1) ((hi 85 (i + 1)) - 65))) 83 (updF D (s.2.2.1) 0))) 8 8 flX8_138 dX8_days_155 (kS_77) (by decide) (by decide) rfl rfl (us (by decide) (us (by decide) (us (by decide) u1))) ?_
                refine V.goto (pc := 158) 17 dX8_days_158 (by decide) ?_
                refine V.locs [2, 0] (ls' := [(0, vR 77), (1, vI ((i + 2 : Nat) : Int))]) rfl ?_
                exact ih17 (i + 2) (pHear (hi 85 (i + 1)) (pBeg (hi 85 i) s)) (updF f 8 (((s.2.2.1 + 1) : Nat) : Int)) (updF A (s.2.2.1) (spOf (hi 85 i))) (updF B (s.2.2.1) ((hi 85 (i + 1)) - 65)) (updF D (s.2.2.1) 0) (by omega) (dp5) (dp7) (fun h q q2 => by omega) (updF_s) (fun j hj h13 => by rw [updF_n hj]; exact gfo j hj h13) (by rw [updF_n (by decide)]; exact gf13) (AgS_hear (s := pBeg (hi 85 i) s) (hi 85 (i + 1)) hAg) (by omega)
              · skip
                refine V.aload_n (pc := 108) 2 dX8_days_108 rfl ?_
                refine V.gr (pc := 109) 8 12 85 flX8_31 dX8_days_109 (kS_77) (by decide) (by decide) rfl (kR_77_12) ?_
                refine V.iload_n (pc := 112) 0 dX8_days_112 rfl ?_
                refine V.ia (pc := 113) (len := 48) (i + 2) (hi 85 (i + 2)) dX8_days_113 (kS_85) (rfl) (by omega) (rfl) ?_
                refine V.i2l (pc := 114) dX8_days_114 ?_
                refine V.ldc2 (pc := 115) (z := 49) clX8_123 dX8_days_115 ⟨by decide, by decide⟩ ?_
                refine V.ldc2 (pc := 118) (z := 57) clX8_125 dX8_days_118 ⟨by decide, by decide⟩ ?_
                refine V.callS (pc := 121) (e1 := eX8_in) 3 [vL (hi 85 (i + 2)), vL 49, vL 57] [] mfX8_in slX8_in mlX8_72 dX8_days_121 rfl rfl (Nat.le_of_ble_eq_true rfl) ⟨by decide, by decide, by decide, by decide⟩ ?_
                refine c_X8_in KW (upR (upR (upR (upR hi 77 f) 81 (updF A (s.2.2.1) (spOf (hi 85 i)))) 82 (updF B (s.2.2.1) ((hi 85 (i + 1)) - 65))) 83 (updF D (s.2.2.1) 0)) hl (hi 85 (i + 2)) 49 57 _ (fun hinD => ?_) (fun hinD => ?_)
                · skip
                  refine V.qI (pc := 121) rfl rfl ?_
                  refine V.if_eq (pc := 124) 148 dX8_days_124 (by decide) (fun hc => by exact absurd hc (by decide)) (fun h124 => ?_)
                  refine V.aload_n (pc := 127) 2 dX8_days_127 rfl ?_
                  refine V.gr (pc := 128) 8 7 83 flX8_25 dX8_days_128 (kS_77) (by decide) (by decide) rfl (kR_77_7) ?_
                  refine V.aload_n (pc := 131) 2 dX8_days_131 rfl ?_
                  refine V.gi (pc := 132) 8 8 ((s.2.2.1 : Nat) : Int) flX8_138 dX8_days_132 (kS_77) (by decide) (by decide) rfl (gf8) ?_
                  refine V.aload_n (pc := 135) 2 dX8_days_135 rfl ?_
                  refine V.gr (pc := 136) 8 12 85 flX8_31 dX8_days_136 (kS_77) (by decide) (by decide) rfl (kR_77_12) ?_
                  refine V.iload_n (pc := 139) 0 dX8_days_139 rfl ?_
                  refine V.ia (pc := 140) (len := 48) (i + 2) (hi 85 (i + 2)) dX8_days_140 (kS_85) (rfl) (by omega) (rfl) ?_
                  refine V.bipush (pc := 141) (z := 48) dX8_days_141 (by decide +kernel) ⟨by decide, by decide⟩ ?_
                  refine V.isub (pc := 143) (((hi 85 (i + 2)) - 48)) dX8_days_143 (w32_of (by omega) (by omega) (by omega)) ?_
                  refine V.is (pc := 144) (len := 16) (hi' := (upR (upR (upR (upR hi 77 f) 81 (updF A (s.2.2.1) (spOf (hi 85 i)))) 82 (updF B (s.2.2.1) ((hi 85 (i + 1)) - 65))) 83 (updF (updF D (s.2.2.1) 0) (s.2.2.1) ((hi 85 (i + 2)) - 48)))) (s.2.2.1) dX8_days_144 (kS_83) (rfl) (by omega) u1 ?_
                  refine V.iinc (pc := 145) (r := ((i + 3 : Nat) : Int)) 0 dX8_days_145 rfl (w32_of (by omega) (by omega) (by omega)) (by decide) (ls' := [(1, vI ((i + 3 : Nat) : Int)), (2, vI (hi 85 i)), (0, vR 77)]) rfl ?_
                  refine V.aload_n (pc := 148) 2 dX8_days_148 rfl ?_
                  refine V.dup (pc := 149) dX8_days_149 rfl ?_
                  refine V.gi (pc := 150) 8 8 ((s.2.2.1 : Nat) : Int) flX8_138 dX8_days_150 (kS_77) (by decide) (by decide) rfl (gf8) ?_
                  refine V.iconst (pc := 153) (z := 1) dX8_days_153 rfl ⟨by decide, by decide⟩ ?_
                  refine V.iadd (pc := 154) ((((s.2.2.1 + 1) : Nat) : Int)) dX8_days_154 (addN (a := s.2.2.1) (b := 1) (by omega)) ?_
                  refine V.pi (pc := 155) (hi' := (upR (upR (upR (upR hi 77 (updF f 8 (((s.2.2.1 + 1) : Nat) : Int))) 81 (updF A (s.2.2.1) (spOf (hi 85 i)))) 82 (updF B (s.2.2.1) ((hi 85 (i + 1)) - 65))) 83 (updF (updF D (s.2.2.1) 0) (s.2.2.1) ((hi 85 (i + 2)) - 48)))) 8 8 flX8_138 dX8_days_155 (kS_77) (by decide) (by decide) rfl rfl (us (by decide) (us (by decide) (us (by decide) u1))) ?_
                  refine V.goto (pc := 158) 17 dX8_days_158 (by decide) ?_
                  refine V.locs [2, 0] (ls' := [(0, vR 77), (1, vI ((i + 3 : Nat) : Int))]) rfl ?_
                  exact ih17 (i + 3) (pDig (hi 85 (i + 2)) (pHear (hi 85 (i + 1)) (pBeg (hi 85 i) s))) (updF f 8 (((s.2.2.1 + 1) : Nat) : Int)) (updF A (s.2.2.1) (spOf (hi 85 i))) (updF B (s.2.2.1) ((hi 85 (i + 1)) - 65)) (updF (updF D (s.2.2.1) 0) (s.2.2.1) ((hi 85 (i + 2)) - 48)) (by omega) (dp6 ⟨by omega, by omega⟩) (Or.inl rfl) (fun h => by cases h) (updF_s) (fun j hj h13 => by rw [updF_n hj]; exact gfo j hj h13) (by rw [updF_n (by decide)]; exact gf13) (by have e := AgS_dig (hi 85 (i + 2)) (AgS_hear (s := pBeg (hi 85 i) s) (hi 85 (i + 1)) hAg); exact e) (by omega)
                · have dnd : ¬ (i + 2 < m ∧ 49 ≤ hi 85 (i + 2) ∧ hi 85 (i + 2) ≤ 57) := by omega
                  refine V.qI (pc := 121) rfl rfl ?_
                  refine V.if_eq (pc := 124) 148 dX8_days_124 (by decide) (fun h124 => ?_) (fun hc => by exact absurd hc (by decide))
                  refine V.aload_n (pc := 148) 2 dX8_days_148 rfl ?_
                  refine V.dup (pc := 149) dX8_days_149 rfl ?_
                  refine V.gi (pc := 150) 8 8 ((s.2.2.1 : Nat) : Int) flX8_138 dX8_days_150 (kS_77) (by decide) (by decide) rfl (gf8) ?_
                  refine V.iconst (pc := 153) (z := 1) dX8_days_153 rfl ⟨by decide, by decide⟩ ?_
                  refine V.iadd (pc := 154) ((((s.2.2.1 + 1) : Nat) : Int)) dX8_days_154 (addN (a := s.2.2.1) (b := 1) (by omega)) ?_
                  refine V.pi (pc := 155) (hi' := (upR (upR (upR (upR hi 77 (updF f 8 (((s.2.2.1 + 1) : Nat) : Int))) 81 (updF A (s.2.2.1) (spOf (hi 85 i)))) 82 (updF B (s.2.2.1) ((hi 85 (i + 1)) - 65))) 83 (updF D (s.2.2.1) 0))) 8 8 flX8_138 dX8_days_155 (kS_77) (by decide) (by decide) rfl rfl (us (by decide) (us (by decide) (us (by decide) u1))) ?_
                  refine V.goto (pc := 158) 17 dX8_days_158 (by decide) ?_
                  refine V.locs [2, 0] (ls' := [(0, vR 77), (1, vI ((i + 2 : Nat) : Int))]) rfl ?_
                  exact ih17 (i + 2) (pHear (hi 85 (i + 1)) (pBeg (hi 85 i) s)) (updF f 8 (((s.2.2.1 + 1) : Nat) : Int)) (updF A (s.2.2.1) (spOf (hi 85 i))) (updF B (s.2.2.1) ((hi 85 (i + 1)) - 65)) (updF D (s.2.2.1) 0) (by omega) (dp5) (dp7) (fun h q q2 => dnd ⟨q, q2⟩) (updF_s) (fun j hj h13 => by rw [updF_n hj]; exact gfo j hj h13) (by rw [updF_n (by decide)]; exact gf13) (AgS_hear (s := pBeg (hi 85 i) s) (hi 85 (i + 1)) hAg) (by omega)
            · skip
              refine V.bipush (pc := 57) (z := 7) dX8_days_57 (by decide +kernel) ⟨by decide, by decide⟩ ?_
              refine V.top (v' := vI (spOf (hi 85 i))) (by rw [show spOf (hi 85 i) = 7 by unfold spOf; rw [if_neg (by omega), if_pos (by omega)]]) ?_
              refine V.goto (pc := 59) 66 dX8_days_59 (by decide) ?_
              refine V.is (pc := 66) (len := 16) (hi' := (upR (upR (upR (upR hi 77 f) 81 (updF A (s.2.2.1) (spOf (hi 85 i)))) 82 B) 83 D)) (s.2.2.1) dX8_days_66 (kS_81) (rfl) (by omega) (us (by decide) (us (by decide) u1)) ?_
              refine V.aload_n (pc := 67) 1 dX8_days_67 rfl ?_
              refine V.gr (pc := 68) 8 6 82 flX8_22 dX8_days_68 (kS_77) (by decide) (by decide) rfl (kR_77_6) ?_
              refine V.aload_n (pc := 71) 1 dX8_days_71 rfl ?_
              refine V.gi (pc := 72) 8 8 ((s.2.2.1 : Nat) : Int) flX8_138 dX8_days_72 (kS_77) (by decide) (by decide) rfl (gf8) ?_
              refine V.aload_n (pc := 75) 1 dX8_days_75 rfl ?_
              refine V.gr (pc := 76) 8 12 85 flX8_31 dX8_days_76 (kS_77) (by decide) (by decide) rfl (kR_77_12) ?_
              refine V.iload_n (pc := 79) 2 dX8_days_79 rfl ?_
              refine V.iconst (pc := 80) (z := 1) dX8_days_80 rfl ⟨by decide, by decide⟩ ?_
              refine V.iadd (pc := 81) ((((i + 1) : Nat) : Int)) dX8_days_81 (addN (a := i) (b := 1) (by omega)) ?_
              refine V.ia (pc := 82) (len := 48) (i + 1) (hi 85 (i + 1)) dX8_days_82 (kS_85) (rfl) (by omega) (rfl) ?_
              refine V.bipush (pc := 83) (z := 65) dX8_days_83 (by decide +kernel) ⟨by decide, by decide⟩ ?_
              refine V.isub (pc := 85) (((hi 85 (i + 1)) - 65)) dX8_days_85 (w32_of (by omega) (by omega) (by omega)) ?_
              refine V.is (pc := 86) (len := 16) (hi' := (upR (upR (upR (upR hi 77 f) 81 (updF A (s.2.2.1) (spOf (hi 85 i)))) 82 (updF B (s.2.2.1) ((hi 85 (i + 1)) - 65))) 83 D)) (s.2.2.1) dX8_days_86 (kS_82) (rfl) (by omega) (us (by decide) u1) ?_
              refine V.iinc (pc := 87) (r := ((i + 2 : Nat) : Int)) 2 dX8_days_87 rfl (w32_of (by omega) (by omega) (by omega)) (by decide) (ls' := [(1, vI ((i + 2 : Nat) : Int)), (2, vI (hi 85 i)), (0, vR 77)]) rfl ?_
              refine V.aload_n (pc := 90) 2 dX8_days_90 rfl ?_
              refine V.gr (pc := 91) 8 7 83 flX8_25 dX8_days_91 (kS_77) (by decide) (by decide) rfl (kR_77_7) ?_
              refine V.aload_n (pc := 94) 2 dX8_days_94 rfl ?_
              refine V.gi (pc := 95) 8 8 ((s.2.2.1 : Nat) : Int) flX8_138 dX8_days_95 (kS_77) (by decide) (by decide) rfl (gf8) ?_
              refine V.iconst (pc := 98) (z := 0) dX8_days_98 rfl ⟨by decide, by decide⟩ ?_
              refine V.is (pc := 99) (len := 16) (hi' := (upR (upR (upR (upR hi 77 f) 81 (updF A (s.2.2.1) (spOf (hi 85 i)))) 82 (updF B (s.2.2.1) ((hi 85 (i + 1)) - 65))) 83 (updF D (s.2.2.1) 0))) (s.2.2.1) dX8_days_99 (kS_83) (rfl) (by omega) u1 ?_
              refine V.iload_n (pc := 100) 0 dX8_days_100 rfl ?_
              refine V.aload_n (pc := 101) 2 dX8_days_101 rfl ?_
              refine V.gi (pc := 102) 8 13 ((m : Nat) : Int) flX8_113 dX8_days_102 (kS_77) (by decide) (by decide) rfl (gf13.trans hm) ?_
              refine V.icmp_ge (pc := 105) 148 dX8_days_105 (by decide) (fun h105 => ?_) (fun h105 => ?_)
              · skip
                refine V.aload_n (pc := 148) 2 dX8_days_148 rfl ?_
                refine V.dup (pc := 149) dX8_days_149 rfl ?_
                refine V.gi (pc := 150) 8 8 ((s.2.2.1 : Nat) : Int) flX8_138 dX8_days_150 (kS_77) (by decide) (by decide) rfl (gf8) ?_
                refine V.iconst (pc := 153) (z := 1) dX8_days_153 rfl ⟨by decide, by decide⟩ ?_
                refine V.iadd (pc := 154) ((((s.2.2.1 + 1) : Nat) : Int)) dX8_days_154 (addN (a := s.2.2.1) (b := 1) (by omega)) ?_
                refine V.pi (pc := 155) (hi' := (upR (upR (upR (upR hi 77 (updF f 8 (((s.2.2.1 + 1) : Nat) : Int))) 81 (updF A (s.2.2.1) (spOf (hi 85 i)))) 82 (updF B (s.2.2.1) ((hi 85 (i + 1)) - 65))) 83 (updF D (s.2.2.1) 0))) 8 8 flX8_138 dX8_days_155 (kS_77) (by decide) (by decide) rfl rfl (us (by decide) (us (by decide) (us (by decide) u1))) ?_
                refine V.goto (pc := 158) 17 dX8_days_158 (by decide) ?_
                refine V.locs [2, 0] (ls' := [(0, vR 77), (1, vI ((i + 2 : Nat) : Int))]) rfl ?_
                exact ih17 (i + 2) (pHear (hi 85 (i + 1)) (pBeg (hi 85 i) s)) (updF f 8 (((s.2.2.1 + 1) : Nat) : Int)) (updF A (s.2.2.1) (spOf (hi 85 i))) (updF B (s.2.2.1) ((hi 85 (i + 1)) - 65)) (updF D (s.2.2.1) 0) (by omega) (dp5) (dp7) (fun h q q2 => by omega) (updF_s) (fun j hj h13 => by rw [updF_n hj]; exact gfo j hj h13) (by rw [updF_n (by decide)]; exact gf13) (AgS_hear (s := pBeg (hi 85 i) s) (hi 85 (i + 1)) hAg) (by omega)
              · skip
                refine V.aload_n (pc := 108) 2 dX8_days_108 rfl ?_
                refine V.gr (pc := 109) 8 12 85 flX8_31 dX8_days_109 (kS_77) (by decide) (by decide) rfl (kR_77_12) ?_
                refine V.iload_n (pc := 112) 0 dX8_days_112 rfl ?_
                refine V.ia (pc := 113) (len := 48) (i + 2) (hi 85 (i + 2)) dX8_days_113 (kS_85) (rfl) (by omega) (rfl) ?_
                refine V.i2l (pc := 114) dX8_days_114 ?_
                refine V.ldc2 (pc := 115) (z := 49) clX8_123 dX8_days_115 ⟨by decide, by decide⟩ ?_
                refine V.ldc2 (pc := 118) (z := 57) clX8_125 dX8_days_118 ⟨by decide, by decide⟩ ?_
                refine V.callS (pc := 121) (e1 := eX8_in) 3 [vL (hi 85 (i + 2)), vL 49, vL 57] [] mfX8_in slX8_in mlX8_72 dX8_days_121 rfl rfl (Nat.le_of_ble_eq_true rfl) ⟨by decide, by decide, by decide, by decide⟩ ?_
                refine c_X8_in KW (upR (upR (upR (upR hi 77 f) 81 (updF A (s.2.2.1) (spOf (hi 85 i)))) 82 (updF B (s.2.2.1) ((hi 85 (i + 1)) - 65))) 83 (updF D (s.2.2.1) 0)) hl (hi 85 (i + 2)) 49 57 _ (fun hinD => ?_) (fun hinD => ?_)
                · skip
                  refine V.qI (pc := 121) rfl rfl ?_
                  refine V.if_eq (pc := 124) 148 dX8_days_124 (by decide) (fun hc => by exact absurd hc (by decide)) (fun h124 => ?_)
                  refine V.aload_n (pc := 127) 2 dX8_days_127 rfl ?_
                  refine V.gr (pc := 128) 8 7 83 flX8_25 dX8_days_128 (kS_77) (by decide) (by decide) rfl (kR_77_7) ?_
                  refine V.aload_n (pc := 131) 2 dX8_days_131 rfl ?_
                  refine V.gi (pc := 132) 8 8 ((s.2.2.1 : Nat) : Int) flX8_138 dX8_days_132 (kS_77) (by decide) (by decide) rfl (gf8) ?_
                  refine V.aload_n (pc := 135) 2 dX8_days_135 rfl ?_
                  refine V.gr (pc := 136) 8 12 85 flX8_31 dX8_days_136 (kS_77) (by decide) (by decide) rfl (kR_77_12) ?_
                  refine V.iload_n (pc := 139) 0 dX8_days_139 rfl ?_
                  refine V.ia (pc := 140) (len := 48) (i + 2) (hi 85 (i + 2)) dX8_days_140 (kS_85) (rfl) (by omega) (rfl) ?_
                  refine V.bipush (pc := 141) (z := 48) dX8_days_141 (by decide +kernel) ⟨by decide, by decide⟩ ?_
                  refine V.isub (pc := 143) (((hi 85 (i + 2)) - 48)) dX8_days_143 (w32_of (by omega) (by omega) (by omega)) ?_
                  refine V.is (pc := 144) (len := 16) (hi' := (upR (upR (upR (upR hi 77 f) 81 (updF A (s.2.2.1) (spOf (hi 85 i)))) 82 (updF B (s.2.2.1) ((hi 85 (i + 1)) - 65))) 83 (updF (updF D (s.2.2.1) 0) (s.2.2.1) ((hi 85 (i + 2)) - 48)))) (s.2.2.1) dX8_days_144 (kS_83) (rfl) (by omega) u1 ?_
                  refine V.iinc (pc := 145) (r := ((i + 3 : Nat) : Int)) 0 dX8_days_145 rfl (w32_of (by omega) (by omega) (by omega)) (by decide) (ls' := [(1, vI ((i + 3 : Nat) : Int)), (2, vI (hi 85 i)), (0, vR 77)]) rfl ?_
                  refine V.aload_n (pc := 148) 2 dX8_days_148 rfl ?_
                  refine V.dup (pc := 149) dX8_days_149 rfl ?_
                  refine V.gi (pc := 150) 8 8 ((s.2.2.1 : Nat) : Int) flX8_138 dX8_days_150 (kS_77) (by decide) (by decide) rfl (gf8) ?_
                  refine V.iconst (pc := 153) (z := 1) dX8_days_153 rfl ⟨by decide, by decide⟩ ?_
                  refine V.iadd (pc := 154) ((((s.2.2.1 + 1) : Nat) : Int)) dX8_days_154 (addN (a := s.2.2.1) (b := 1) (by omega)) ?_
                  refine V.pi (pc := 155) (hi' := (upR (upR (upR (upR hi 77 (updF f 8 (((s.2.2.1 + 1) : Nat) : Int))) 81 (updF A (s.2.2.1) (spOf (hi 85 i)))) 82 (updF B (s.2.2.1) ((hi 85 (i + 1)) - 65))) 83 (updF (updF D (s.2.2.1) 0) (s.2.2.1) ((hi 85 (i + 2)) - 48)))) 8 8 flX8_138 dX8_days_155 (kS_77) (by decide) (by decide) rfl rfl (us (by decide) (us (by decide) (us (by decide) u1))) ?_
                  refine V.goto (pc := 158) 17 dX8_days_158 (by decide) ?_
                  refine V.locs [2, 0] (ls' := [(0, vR 77), (1, vI ((i + 3 : Nat) : Int))]) rfl ?_
                  exact ih17 (i + 3) (pDig (hi 85 (i + 2)) (pHear (hi 85 (i + 1)) (pBeg (hi 85 i) s))) (updF f 8 (((s.2.2.1 + 1) : Nat) : Int)) (updF A (s.2.2.1) (spOf (hi 85 i))) (updF B (s.2.2.1) ((hi 85 (i + 1)) - 65)) (updF (updF D (s.2.2.1) 0) (s.2.2.1) ((hi 85 (i + 2)) - 48)) (by omega) (dp6 ⟨by omega, by omega⟩) (Or.inl rfl) (fun h => by cases h) (updF_s) (fun j hj h13 => by rw [updF_n hj]; exact gfo j hj h13) (by rw [updF_n (by decide)]; exact gf13) (by have e := AgS_dig (hi 85 (i + 2)) (AgS_hear (s := pBeg (hi 85 i) s) (hi 85 (i + 1)) hAg); exact e) (by omega)
                · have dnd : ¬ (i + 2 < m ∧ 49 ≤ hi 85 (i + 2) ∧ hi 85 (i + 2) ≤ 57) := by omega
                  refine V.qI (pc := 121) rfl rfl ?_
                  refine V.if_eq (pc := 124) 148 dX8_days_124 (by decide) (fun h124 => ?_) (fun hc => by exact absurd hc (by decide))
                  refine V.aload_n (pc := 148) 2 dX8_days_148 rfl ?_
                  refine V.dup (pc := 149) dX8_days_149 rfl ?_
                  refine V.gi (pc := 150) 8 8 ((s.2.2.1 : Nat) : Int) flX8_138 dX8_days_150 (kS_77) (by decide) (by decide) rfl (gf8) ?_
                  refine V.iconst (pc := 153) (z := 1) dX8_days_153 rfl ⟨by decide, by decide⟩ ?_
                  refine V.iadd (pc := 154) ((((s.2.2.1 + 1) : Nat) : Int)) dX8_days_154 (addN (a := s.2.2.1) (b := 1) (by omega)) ?_
                  refine V.pi (pc := 155) (hi' := (upR (upR (upR (upR hi 77 (updF f 8 (((s.2.2.1 + 1) : Nat) : Int))) 81 (updF A (s.2.2.1) (spOf (hi 85 i)))) 82 (updF B (s.2.2.1) ((hi 85 (i + 1)) - 65))) 83 (updF D (s.2.2.1) 0))) 8 8 flX8_138 dX8_days_155 (kS_77) (by decide) (by decide) rfl rfl (us (by decide) (us (by decide) (us (by decide) u1))) ?_
                  refine V.goto (pc := 158) 17 dX8_days_158 (by decide) ?_
                  refine V.locs [2, 0] (ls' := [(0, vR 77), (1, vI ((i + 2 : Nat) : Int))]) rfl ?_
                  exact ih17 (i + 2) (pHear (hi 85 (i + 1)) (pBeg (hi 85 i) s)) (updF f 8 (((s.2.2.1 + 1) : Nat) : Int)) (updF A (s.2.2.1) (spOf (hi 85 i))) (updF B (s.2.2.1) ((hi 85 (i + 1)) - 65)) (updF D (s.2.2.1) 0) (by omega) (dp5) (dp7) (fun h q q2 => dnd ⟨q, q2⟩) (updF_s) (fun j hj h13 => by rw [updF_n hj]; exact gfo j hj h13) (by rw [updF_n (by decide)]; exact gf13) (AgS_hear (s := pBeg (hi 85 i) s) (hi 85 (i + 1)) hAg) (by omega)
          · skip
            refine V.bipush (pc := 46) (z := 6) dX8_days_46 (by decide +kernel) ⟨by decide, by decide⟩ ?_
            refine V.top (v' := vI (spOf (hi 85 i))) (by rw [show spOf (hi 85 i) = 6 by unfold spOf; rw [if_pos (by omega)]]) ?_
            refine V.goto (pc := 48) 66 dX8_days_48 (by decide) ?_
            refine V.is (pc := 66) (len := 16) (hi' := (upR (upR (upR (upR hi 77 f) 81 (updF A (s.2.2.1) (spOf (hi 85 i)))) 82 B) 83 D)) (s.2.2.1) dX8_days_66 (kS_81) (rfl) (by omega) (us (by decide) (us (by decide) u1)) ?_
            refine V.aload_n (pc := 67) 1 dX8_days_67 rfl ?_
            refine V.gr (pc := 68) 8 6 82 flX8_22 dX8_days_68 (kS_77) (by decide) (by decide) rfl (kR_77_6) ?_
            refine V.aload_n (pc := 71) 1 dX8_days_71 rfl ?_
            refine V.gi (pc := 72) 8 8 ((s.2.2.1 : Nat) : Int) flX8_138 dX8_days_72 (kS_77) (by decide) (by decide) rfl (gf8) ?_
            refine V.aload_n (pc := 75) 1 dX8_days_75 rfl ?_
            refine V.gr (pc := 76) 8 12 85 flX8_31 dX8_days_76 (kS_77) (by decide) (by decide) rfl (kR_77_12) ?_
            refine V.iload_n (pc := 79) 2 dX8_days_79 rfl ?_
            refine V.iconst (pc := 80) (z := 1) dX8_days_80 rfl ⟨by decide, by decide⟩ ?_
            refine V.iadd (pc := 81) ((((i + 1) : Nat) : Int)) dX8_days_81 (addN (a := i) (b := 1) (by omega)) ?_
            refine V.ia (pc := 82) (len := 48) (i + 1) (hi 85 (i + 1)) dX8_days_82 (kS_85) (rfl) (by omega) (rfl) ?_
            refine V.bipush (pc := 83) (z := 65) dX8_days_83 (by decide +kernel) ⟨by decide, by decide⟩ ?_
            refine V.isub (pc := 85) (((hi 85 (i + 1)) - 65)) dX8_days_85 (w32_of (by omega) (by omega) (by omega)) ?_
            refine V.is (pc := 86) (len := 16) (hi' := (upR (upR (upR (upR hi 77 f) 81 (updF A (s.2.2.1) (spOf (hi 85 i)))) 82 (updF B (s.2.2.1) ((hi 85 (i + 1)) - 65))) 83 D)) (s.2.2.1) dX8_days_86 (kS_82) (rfl) (by omega) (us (by decide) u1) ?_
            refine V.iinc (pc := 87) (r := ((i + 2 : Nat) : Int)) 2 dX8_days_87 rfl (w32_of (by omega) (by omega) (by omega)) (by decide) (ls' := [(1, vI ((i + 2 : Nat) : Int)), (2, vI (hi 85 i)), (0, vR 77)]) rfl ?_
            refine V.aload_n (pc := 90) 2 dX8_days_90 rfl ?_
            refine V.gr (pc := 91) 8 7 83 flX8_25 dX8_days_91 (kS_77) (by decide) (by decide) rfl (kR_77_7) ?_
            refine V.aload_n (pc := 94) 2 dX8_days_94 rfl ?_
            refine V.gi (pc := 95) 8 8 ((s.2.2.1 : Nat) : Int) flX8_138 dX8_days_95 (kS_77) (by decide) (by decide) rfl (gf8) ?_
            refine V.iconst (pc := 98) (z := 0) dX8_days_98 rfl ⟨by decide, by decide⟩ ?_
            refine V.is (pc := 99) (len := 16) (hi' := (upR (upR (upR (upR hi 77 f) 81 (updF A (s.2.2.1) (spOf (hi 85 i)))) 82 (updF B (s.2.2.1) ((hi 85 (i + 1)) - 65))) 83 (updF D (s.2.2.1) 0))) (s.2.2.1) dX8_days_99 (kS_83) (rfl) (by omega) u1 ?_
            refine V.iload_n (pc := 100) 0 dX8_days_100 rfl ?_
            refine V.aload_n (pc := 101) 2 dX8_days_101 rfl ?_
            refine V.gi (pc := 102) 8 13 ((m : Nat) : Int) flX8_113 dX8_days_102 (kS_77) (by decide) (by decide) rfl (gf13.trans hm) ?_
            refine V.icmp_ge (pc := 105) 148 dX8_days_105 (by decide) (fun h105 => ?_) (fun h105 => ?_)
            · skip
              refine V.aload_n (pc := 148) 2 dX8_days_148 rfl ?_
              refine V.dup (pc := 149) dX8_days_149 rfl ?_
              refine V.gi (pc := 150) 8 8 ((s.2.2.1 : Nat) : Int) flX8_138 dX8_days_150 (kS_77) (by decide) (by decide) rfl (gf8) ?_
              refine V.iconst (pc := 153) (z := 1) dX8_days_153 rfl ⟨by decide, by decide⟩ ?_
              refine V.iadd (pc := 154) ((((s.2.2.1 + 1) : Nat) : Int)) dX8_days_154 (addN (a := s.2.2.1) (b := 1) (by omega)) ?_
              refine V.pi (pc := 155) (hi' := (upR (upR (upR (upR hi 77 (updF f 8 (((s.2.2.1 + 1) : Nat) : Int))) 81 (updF A (s.2.2.1) (spOf (hi 85 i)))) 82 (updF B (s.2.2.1) ((hi 85 (i + 1)) - 65))) 83 (updF D (s.2.2.1) 0))) 8 8 flX8_138 dX8_days_155 (kS_77) (by decide) (by decide) rfl rfl (us (by decide) (us (by decide) (us (by decide) u1))) ?_
              refine V.goto (pc := 158) 17 dX8_days_158 (by decide) ?_
              refine V.locs [2, 0] (ls' := [(0, vR 77), (1, vI ((i + 2 : Nat) : Int))]) rfl ?_
              exact ih17 (i + 2) (pHear (hi 85 (i + 1)) (pBeg (hi 85 i) s)) (updF f 8 (((s.2.2.1 + 1) : Nat) : Int)) (updF A (s.2.2.1) (spOf (hi 85 i))) (updF B (s.2.2.1) ((hi 85 (i + 1)) - 65)) (updF D (s.2.2.1) 0) (by omega) (dp5) (dp7) (fun h q q2 => by omega) (updF_s) (fun j hj h13 => by rw [updF_n hj]; exact gfo j hj h13) (by rw [updF_n (by decide)]; exact gf13) (AgS_hear (s := pBeg (hi 85 i) s) (hi 85 (i + 1)) hAg) (by omega)
            · skip
              refine V.aload_n (pc := 108) 2 dX8_days_108 rfl ?_
              refine V.gr (pc := 109) 8 12 85 flX8_31 dX8_days_109 (kS_77) (by decide) (by decide) rfl (kR_77_12) ?_
              refine V.iload_n (pc := 112) 0 dX8_days_112 rfl ?_
              refine V.ia (pc := 113) (len := 48) (i + 2) (hi 85 (i + 2)) dX8_days_113 (kS_85) (rfl) (by omega) (rfl) ?_
              refine V.i2l (pc := 114) dX8_days_114 ?_
              refine V.ldc2 (pc := 115) (z := 49) clX8_123 dX8_days_115 ⟨by decide, by decide⟩ ?_
              refine V.ldc2 (pc := 118) (z := 57) clX8_125 dX8_days_118 ⟨by decide, by decide⟩ ?_
              refine V.callS (pc := 121) (e1 := eX8_in) 3 [vL (hi 85 (i + 2)), vL 49, vL 57] [] mfX8_in slX8_in mlX8_72 dX8_days_121 rfl rfl (Nat.le_of_ble_eq_true rfl) ⟨by decide, by decide, by decide, by decide⟩ ?_
              refine c_X8_in KW (upR (upR (upR (upR hi 77 f) 81 (updF A (s.2.2.1) (spOf (hi 85 i)))) 82 (updF B (s.2.2.1) ((hi 85 (i + 1)) - 65))) 83 (updF D (s.2.2.1) 0)) hl (hi 85 (i + 2)) 49 57 _ (fun hinD => ?_) (fun hinD => ?_)
              · skip
                refine V.qI (pc := 121) rfl rfl ?_
                refine V.if_eq (pc := 124) 148 dX8_days_124 (by decide) (fun hc => by exact absurd hc (by decide)) (fun h124 => ?_)
                refine V.aload_n (pc := 127) 2 dX8_days_127 rfl ?_
                refine V.gr (pc := 128) 8 7 83 flX8_25 dX8_days_128 (kS_77) (by decide) (by decide) rfl (kR_77_7) ?_
                refine V.aload_n (pc := 131) 2 dX8_days_131 rfl ?_
                refine V.gi (pc := 132) 8 8 ((s.2.2.1 : Nat) : Int) flX8_138 dX8_days_132 (kS_77) (by decide) (by decide) rfl (gf8) ?_
                refine V.aload_n (pc := 135) 2 dX8_days_135 rfl ?_
                refine V.gr (pc := 136) 8 12 85 flX8_31 dX8_days_136 (kS_77) (by decide) (by decide) rfl (kR_77_12) ?_
                refine V.iload_n (pc := 139) 0 dX8_days_139 rfl ?_
                refine V.ia (pc := 140) (len := 48) (i + 2) (hi 85 (i + 2)) dX8_days_140 (kS_85) (rfl) (by omega) (rfl) ?_
                refine V.bipush (pc := 141) (z := 48) dX8_days_141 (by decide +kernel) ⟨by decide, by decide⟩ ?_
                refine V.isub (pc := 143) (((hi 85 (i + 2)) - 48)) dX8_days_143 (w32_of (by omega) (by omega) (by omega)) ?_
                refine V.is (pc := 144) (len := 16) (hi' := (upR (upR (upR (upR hi 77 f) 81 (updF A (s.2.2.1) (spOf (hi 85 i)))) 82 (updF B (s.2.2.1) ((hi 85 (i + 1)) - 65))) 83 (updF (updF D (s.2.2.1) 0) (s.2.2.1) ((hi 85 (i + 2)) - 48)))) (s.2.2.1) dX8_days_144 (kS_83) (rfl) (by omega) u1 ?_
                refine V.iinc (pc := 145) (r := ((i + 3 : Nat) : Int)) 0 dX8_days_145 rfl (w32_of (by omega) (by omega) (by omega)) (by decide) (ls' := [(1, vI ((i + 3 : Nat) : Int)), (2, vI (hi 85 i)), (0, vR 77)]) rfl ?_
                refine V.aload_n (pc := 148) 2 dX8_days_148 rfl ?_
                refine V.dup (pc := 149) dX8_days_149 rfl ?_
                refine V.gi (pc := 150) 8 8 ((s.2.2.1 : Nat) : Int) flX8_138 dX8_days_150 (kS_77) (by decide) (by decide) rfl (gf8) ?_
                refine V.iconst (pc := 153) (z := 1) dX8_days_153 rfl ⟨by decide, by decide⟩ ?_
                refine V.iadd (pc := 154) ((((s.2.2.1 + 1) : Nat) : Int)) dX8_days_154 (addN (a := s.2.2.1) (b := 1) (by omega)) ?_
                refine V.pi (pc := 155) (hi' := (upR (upR (upR (upR hi 77 (updF f 8 (((s.2.2.1 + 1) : Nat) : Int))) 81 (updF A (s.2.2.1) (spOf (hi 85 i)))) 82 (updF B (s.2.2.1) ((hi 85 (i + 1)) - 65))) 83 (updF (updF D (s.2.2.1) 0) (s.2.2.1) ((hi 85 (i + 2)) - 48)))) 8 8 flX8_138 dX8_days_155 (kS_77) (by decide) (by decide) rfl rfl (us (by decide) (us (by decide) (us (by decide) u1))) ?_
                refine V.goto (pc := 158) 17 dX8_days_158 (by decide) ?_
                refine V.locs [2, 0] (ls' := [(0, vR 77), (1, vI ((i + 3 : Nat) : Int))]) rfl ?_
                exact ih17 (i + 3) (pDig (hi 85 (i + 2)) (pHear (hi 85 (i + 1)) (pBeg (hi 85 i) s))) (updF f 8 (((s.2.2.1 + 1) : Nat) : Int)) (updF A (s.2.2.1) (spOf (hi 85 i))) (updF B (s.2.2.1) ((hi 85 (i + 1)) - 65)) (updF (updF D (s.2.2.1) 0) (s.2.2.1) ((hi 85 (i + 2)) - 48)) (by omega) (dp6 ⟨by omega, by omega⟩) (Or.inl rfl) (fun h => by cases h) (updF_s) (fun j hj h13 => by rw [updF_n hj]; exact gfo j hj h13) (by rw [updF_n (by decide)]; exact gf13) (by have e := AgS_dig (hi 85 (i + 2)) (AgS_hear (s := pBeg (hi 85 i) s) (hi 85 (i + 1)) hAg); exact e) (by omega)
              · have dnd : ¬ (i + 2 < m ∧ 49 ≤ hi 85 (i + 2) ∧ hi 85 (i + 2) ≤ 57) := by omega
                refine V.qI (pc := 121) rfl rfl ?_
                refine V.if_eq (pc := 124) 148 dX8_days_124 (by decide) (fun h124 => ?_) (fun hc => by exact absurd hc (by decide))
                refine V.aload_n (pc := 148) 2 dX8_days_148 rfl ?_
                refine V.dup (pc := 149) dX8_days_149 rfl ?_
                refine V.gi (pc := 150) 8 8 ((s.2.2.1 : Nat) : Int) flX8_138 dX8_days_150 (kS_77) (by decide) (by decide) rfl (gf8) ?_
                refine V.iconst (pc := 153) (z := 1) dX8_days_153 rfl ⟨by decide, by decide⟩ ?_
                refine V.iadd (pc := 154) ((((s.2.2.1 + 1) : Nat) : Int)) dX8_days_154 (addN (a := s.2.2.1) (b := 1) (by omega)) ?_
                refine V.pi (pc := 155) (hi' := (upR (upR (upR (upR hi 77 (updF f 8 (((s.2.2.1 + 1) : Nat) : Int))) 81 (updF A (s.2.2.1) (spOf (hi 85 i)))) 82 (updF B (s.2.2.1) ((hi 85 (i + 1)) - 65))) 83 (updF D (s.2.2.1) 0))) 8 8 flX8_138 dX8_days_155 (kS_77) (by decide) (by decide) rfl rfl (us (by decide) (us (by decide) (us (by decide) u1))) ?_
                refine V.goto (pc := 158) 17 dX8_days_158 (by decide) ?_
                refine V.locs [2, 0] (ls' := [(0, vR 77), (1, vI ((i + 2 : Nat) : Int))]) rfl ?_
                exact ih17 (i + 2) (pHear (hi 85 (i + 1)) (pBeg (hi 85 i) s)) (updF f 8 (((s.2.2.1 + 1) : Nat) : Int)) (updF A (s.2.2.1) (spOf (hi 85 i))) (updF B (s.2.2.1) ((hi 85 (i + 1)) - 65)) (updF D (s.2.2.1) 0) (by omega) (dp5) (dp7) (fun h q q2 => dnd ⟨q, q2⟩) (updF_s) (fun j hj h13 => by rw [updF_n hj]; exact gfo j hj h13) (by rw [updF_n (by decide)]; exact gf13) (AgS_hear (s := pBeg (hi 85 i) s) (hi 85 (i + 1)) hAg) (by omega)
    refine V.locs [1, 0] (ls' := [(0, vR 77), (1, vI 0)]) rfl ?_
    exact lp17 _ 0 p0 (updF (hi 77) 8 0) (hi 81) (hi 82) (hi 83) (by omega) (rfl) (Or.inl rfl) (fun h => by cases h) (updF_s) (fun j hj _ => updF_n hj) (updF_n (by decide)) (fun j hj => absurd hj (Nat.not_lt_zero j)) (Nat.lt_succ_self _)
  · have hd : dayF (hi 85) m ≠ -6 := by omega
    refine V.bipush (pc := 7) (z := (-5)) dX8_days_7 (by decide +kernel) ⟨by decide, by decide⟩ ?_
    refine V.iret (pc := 9) (z := (-5)) dX8_days_9 rfl ?_
    rw [upR_id, upR_id, upR_id, upR_id]
    have hA : aDays (σ, m, hi 85, im)  = -5 := by
      unfold aDays
      try dsimp only [gσ, gm, gg, gi]
      refine (if_pos (by first | omega | assumption)).trans ?_
      rfl
    rw [hA] at hq
    have hN : nDays (σ, m, hi 85, im)  = (σ, m, hi 85, im) := by
      unfold nDays
      try dsimp only [gσ, gm, gg, gi]
      refine (if_pos (by first | omega | assumption)).trans ?_
      rfl
    rw [hN] at hq
    exact hq _ _ (by repeat (first | exact gr0 | refine gr1 (by decide) ?_ | refine gr2 (by decide) ?_)) hR

set_option maxRecDepth 100000 in
theorem c_X8_part (hi hl : HI) (σ : SG) (m : Nat) (g : Nat → Int) (im : Nat → Option SG) (hR : RMo hi hl (σ, m, g, im)) (p : Int) (w : Int) (Q : QT) (hq : ∀ hi' hl' : HI, FrM hi hl hi' hl' → RMo hi' hl' (σ, m, g, im) → Q (some (vI (aPart (σ, m, g, im) p w))) KW hi' hl') : Con eX8_part [vR 77, vI p, vI w] KW hi hl Q := by
  refine Con.ofV (by decide +kernel) (Nat.le_of_ble_eq_true rfl) ?_
  show V eX8_part none KW 0 [(0, vR 77), (1, vI p), (2, vI w)] [] hi hl 0 0 Q
  obtain ⟨hC, ⟨hm, hm2, hg5, hgr⟩, k0, k1, k2, k3⟩ := RM_o hR
  subst hg5
  have hwf := hC.1
  have hn16 := hwf.2.2.1
  have hbg := hwf.2.2.2.2.1
  refine V.iload_n (pc := 0) 1 dX8_part_0 rfl ?_
  refine V.i2l (pc := 1) dX8_part_1 ?_
  refine V.lconst (pc := 2) (z := 0) dX8_part_2 (by decide +kernel) ⟨by decide, by decide⟩ ?_
  refine V.aload_n (pc := 3) 0 dX8_part_3 rfl ?_
  refine V.gi (pc := 4) 8 8 ((nn σ : Nat) : Int) flX8_138 dX8_part_4 (kS_77) (by decide) (by decide) rfl (hC.2.2.2.1) ?_
  refine V.iconst (pc := 7) (z := 1) dX8_part_7 rfl ⟨by decide, by decide⟩ ?_
  refine V.isub (pc := 8) (((nn σ : Int) - 1)) dX8_part_8 (w32_of (by omega) (by omega) (by omega)) ?_
  refine V.i2l (pc := 9) dX8_part_9 ?_
  refine V.callS (pc := 10) (e1 := eX8_in) 3 [vL p, vL 0, vL ((nn σ : Int) - 1)] [] mfX8_in slX8_in mlX8_72 dX8_part_10 rfl rfl (Nat.le_of_ble_eq_true rfl) ⟨by decide, by decide, by decide, by decide⟩ ?_
  refine c_X8_in KW hi hl p 0 ((nn σ : Int) - 1) _ (fun hinp => ?_) (fun hinp => ?_)
  · skip
    refine V.qI (pc := 10) rfl rfl ?_
    refine V.if_ne (pc := 13) 18 dX8_part_13 (by decide) (fun h13 => ?_) (fun hc => by exact absurd hc (by decide))
    obtain ⟨n, rfl⟩ : ∃ n : Nat, p = (n : Int) := ⟨p.toNat, by omega⟩
    refine V.iload_n (pc := 18) 2 dX8_part_18 rfl ?_
    by_cases hts19 : w < 0 ∨ 3 < w
    · refine V.tabOut (pc := 19) 95 dX8_part_19 hts19 (by decide) ?_
      refine V.bipush (pc := 95) (z := (-2)) dX8_part_95 (by decide +kernel) ⟨by decide, by decide⟩ ?_
      refine V.iret (pc := 97) (z := (-2)) dX8_part_97 rfl ?_
      have hA : aPart (σ, m, hi 85, im) (n : Int) w = -2 := by
        unfold aPart
        try dsimp only [gσ, gm, gg, gi]
        refine (if_neg (by first | omega | assumption)).trans ?_
        refine (if_neg (by first | omega | assumption)).trans ?_
        refine (if_neg (by first | omega | assumption)).trans ?_
        refine (if_neg (by first | omega | assumption)).trans ?_
        refine (if_neg (by first | omega | assumption)).trans ?_
        rfl
      rw [hA] at hq
      exact hq _ _ (by repeat (first | exact gr0 | refine gr1 (by decide) ?_ | refine gr2 (by decide) ?_)) hR
    · have htr19 : w = 0 ∨ w = 1 ∨ w = 2 ∨ w = 3 := by omega
      rcases htr19 with hc19 | hc19 | hc19 | hc19
      · refine V.tabIn (pc := 19) 0 48 dX8_part_19 (by omega) (by omega) rfl (by decide) ?_
        refine V.aload_n (pc := 48) 0 dX8_part_48 rfl ?_
        refine V.gr (pc := 49) 8 5 81 flX8_19 dX8_part_49 (kS_77) (by decide) (by decide) rfl (kR_77_5) ?_
        refine V.iload_n (pc := 52) 1 dX8_part_52 rfl ?_
        refine V.ia (pc := 53) (len := 16) n ((sp' σ n : Nat) : Int) dX8_part_53 (kS_81) (rfl) (by omega) ((hC.2.2.2.2.1 n (by omega)).1) ?_
        refine V.iret (pc := 54) (z := ((sp' σ n : Nat) : Int)) dX8_part_54 rfl ?_
        have hA : aPart (σ, m, hi 85, im) (n : Int) w = (sp' σ n : Nat) := by
          unfold aPart
          try dsimp only [gσ, gm, gg, gi]
          refine (if_neg (by first | omega | assumption)).trans ?_
          refine (if_pos (by first | omega | assumption)).trans ?_
          rfl
        rw [hA] at hq
        exact hq _ _ (by repeat (first | exact gr0 | refine gr1 (by decide) ?_ | refine gr2 (by decide) ?_)) hR
      · refine V.tabIn (pc := 19) 1 55 dX8_part_19 (by omega) (by omega) rfl (by decide) ?_
        refine V.aload_n (pc := 55) 0 dX8_part_55 rfl ?_
        refine V.gr (pc := 56) 8 6 82 flX8_22 dX8_part_56 (kS_77) (by decide) (by decide) rfl (kR_77_6) ?_
        refine V.iload_n (pc := 59) 1 dX8_part_59 rfl ?_
        refine V.ia (pc := 60) (len := 16) n ((he σ n : Nat) : Int) dX8_part_60 (kS_82) (rfl) (by omega) ((hC.2.2.2.2.1 n (by omega)).2.1) ?_
        refine V.iret (pc := 61) (z := ((he σ n : Nat) : Int)) dX8_part_61 rfl ?_
        have hA : aPart (σ, m, hi 85, im) (n : Int) w = (he σ n : Nat) := by
          unfold aPart
          try dsimp only [gσ, gm, gg, gi]
          refine (if_neg (by first | omega | assumption)).trans ?_
          refine (if_neg (by first | omega | assumption)).trans ?_
          refine (if_pos (by first | omega | assumption)).trans ?_
          rfl
        rw [hA] at hq
        exact hq _ _ (by repeat (first | exact gr0 | refine gr1 (by decide) ?_ | refine gr2 (by decide) ?_)) hR
      · refine V.tabIn (pc := 19) 2 62 dX8_part_19 (by omega) (by omega) rfl (by decide) ?_
        refine V.aload_n (pc := 62) 0 dX8_part_62 rfl ?_
        refine V.gr (pc := 63) 8 7 83 flX8_25 dX8_part_63 (kS_77) (by decide) (by decide) rfl (kR_77_7) ?_
        refine V.iload_n (pc := 66) 1 dX8_part_66 rfl ?_
        refine V.ia (pc := 67) (len := 16) n ((di σ n : Nat) : Int) dX8_part_67 (kS_83) (rfl) (by omega) ((hC.2.2.2.2.1 n (by omega)).2.2) ?_
        refine V.iret (pc := 68) (z := ((di σ n : Nat) : Int)) dX8_part_68 rfl ?_
        have hA : aPart (σ, m, hi 85, im) (n : Int) w = (di σ n : Nat) := by
          unfold aPart
          try dsimp only [gσ, gm, gg, gi]
          refine (if_neg (by first | omega | assumption)).trans ?_
          refine (if_neg (by first | omega | assumption)).trans ?_
          refine (if_neg (by first | omega | assumption)).trans ?_
          refine (if_pos (by first | omega | assumption)).trans ?_
          rfl
        rw [hA] at hq
        exact hq _ _ (by repeat (first | exact gr0 | refine gr1 (by decide) ?_ | refine gr2 (by decide) ?_)) hR
      · refine V.tabIn (pc := 19) 3 69 dX8_part_19 (by omega) (by omega) rfl (by decide) ?_
        refine V.aload_n (pc := 69) 0 dX8_part_69 rfl ?_
        refine V.aload_n (pc := 70) 0 dX8_part_70 rfl ?_
        refine V.gi (pc := 71) 8 9 ((bg σ : Nat) : Int) flX8_147 dX8_part_71 (kS_77) (by decide) (by decide) rfl (hC.2.2.2.2.2.1) ?_
        refine V.bipush (pc := 74) (z := (-6)) dX8_part_74 (by decide +kernel) ⟨by decide, by decide⟩ ?_
        refine V.iconst (pc := 76) (z := 0) dX8_part_76 rfl ⟨by decide, by decide⟩ ?_
        refine V.callV (pc := 77) (e1 := eX8_goDay) (o := 77) (c := 8) 3 [vI ((bg σ : Nat) : Int), vI (-6), vI 0] [] mfX8_goDay slX8_goDay mlX8_164 dX8_part_77 (kS_77) (by decide) rfl rfl rfl (Nat.le_of_ble_eq_true rfl) ⟨by decide, by decide, by decide, by decide⟩ ?_
        refine c_X8_goDay hi hl σ hC (bg σ) (by omega) (-6) 0 _ (fun f77 f86 f87 f78 f79 hgd hgW => ?_)
        refine V.qV (pc := 77) rfl rfl ?_
        refine V.hieq (hi' := (upR (upR (upR (upR (upR hi 79 f79) 78 f78) 87 f87) 86 f86) 77 f77)) ((upR_c ((upR_c ((upR_c ((upR_c r0).trans (rs (by decide) r0))).trans (rs (by decide) (rs (by decide) r0)))).trans (rs (by decide) (rs (by decide) (rs (by decide) r0))))).trans (rs (by decide) (rs (by decide) (rs (by decide) (rs (by decide) r0))))) ?_
        have hgW : WM f77 f86 f87 (wD σ) (nn σ) := hgW
        refine V.aload_n (pc := 80) 0 dX8_part_80 rfl ?_
        refine V.gr (pc := 81) 8 16 87 flX8_37 dX8_part_81 (kS_77) (by decide) (by decide) rfl (kR_77_16) ?_
        refine V.iload_n (pc := 84) 1 dX8_part_84 rfl ?_
        refine V.za (pc := 85) (len := 16) n (b2i (heardF σ n)) dX8_part_85 (kS_87) (rfl) (by omega) (hgW.2.2.1 n (by omega)) ?_
        refine V.if_eq (pc := 86) 93 dX8_part_86 (by decide) (fun h86 => ?_) (fun h86 => ?_)
        · have hv := b2i_F h86
          refine V.iconst (pc := 93) (z := 0) dX8_part_93 rfl ⟨by decide, by decide⟩ ?_
          refine V.iret (pc := 94) (z := 0) dX8_part_94 rfl ?_
          have hA : aPart (σ, m, hi 85, im) (n : Int) w = 0 := by
            unfold aPart
            try dsimp only [gσ, gm, gg, gi]
            refine (if_neg (by first | omega | assumption)).trans ?_
            refine (if_neg (by first | omega | assumption)).trans ?_
            refine (if_neg (by first | omega | assumption)).trans ?_
            refine (if_neg (by first | omega | assumption)).trans ?_
            refine (if_pos (by first | omega | assumption)).trans ?_
            show b2i (heardF σ n) = _
            rw [hv]; rfl
          rw [hA] at hq
          exact hq _ _ (by repeat (first | exact gr0 | refine gr1 (by decide) ?_ | refine gr2 (by decide) ?_)) (RM_up (hl := hl) hC hm hm2 hgr k0 k1 k2 k3 (hgd 8 (by decide) (by decide) (by decide)) (hgd 9 (by decide) (by decide) (by decide)) (hgd 11 (by decide) (by decide) (by decide)) (hgd 13 (by decide) (by decide) (by decide)) rfl rfl rfl rfl rfl rfl rfl rfl)
        · have hv := b2i_T h86
          refine V.iconst (pc := 89) (z := 1) dX8_part_89 rfl ⟨by decide, by decide⟩ ?_
          refine V.goto (pc := 90) 94 dX8_part_90 (by decide) ?_
          refine V.iret (pc := 94) (z := 1) dX8_part_94 rfl ?_
          have hA : aPart (σ, m, hi 85, im) (n : Int) w = 1 := by
            unfold aPart
            try dsimp only [gσ, gm, gg, gi]
            refine (if_neg (by first | omega | assumption)).trans ?_
            refine (if_neg (by first | omega | assumption)).trans ?_
            refine (if_neg (by first | omega | assumption)).trans ?_
            refine (if_neg (by first | omega | assumption)).trans ?_
            refine (if_pos (by first | omega | assumption)).trans ?_
            show b2i (heardF σ n) = _
            rw [hv]; rfl
          rw [hA] at hq
          exact hq _ _ (by repeat (first | exact gr0 | refine gr1 (by decide) ?_ | refine gr2 (by decide) ?_)) (RM_up (hl := hl) hC hm hm2 hgr k0 k1 k2 k3 (hgd 8 (by decide) (by decide) (by decide)) (hgd 9 (by decide) (by decide) (by decide)) (hgd 11 (by decide) (by decide) (by decide)) (hgd 13 (by decide) (by decide) (by decide)) rfl rfl rfl rfl rfl rfl rfl rfl)
  · skip
    refine V.qI (pc := 10) rfl rfl ?_
    refine V.if_ne (pc := 13) 18 dX8_part_13 (by decide) (fun hc => by exact absurd hc (by decide)) (fun h13 => ?_)
    refine V.iconst (pc := 16) (z := (-1)) dX8_part_16 rfl ⟨by decide, by decide⟩ ?_
    refine V.iret (pc := 17) (z := (-1)) dX8_part_17 rfl ?_
    have hA : aPart (σ, m, hi 85, im) p w = -1 := by
      unfold aPart
      try dsimp only [gσ, gm, gg, gi]
      refine (if_pos (by first | omega | assumption)).trans ?_
      rfl
    rw [hA] at hq
    exact hq _ _ (by repeat (first | exact gr0 | refine gr1 (by decide) ?_ | refine gr2 (by decide) ?_)) hR

set_option maxRecDepth 100000 in
theorem c_X8_years (hi hl : HI) (σ : SG) (m : Nat) (g : Nat → Int) (im : Nat → Option SG) (hR : RMo hi hl (σ, m, g, im)) (a : Int) (n : Int) (b : Int) (i : Int) (hi0 : -2147483648 ≤ i ∧ i < 2147483648) (Q : QT) (hq : ∀ hi' hl' : HI, FrM hi hl hi' hl' → RMo hi' hl' (σ, m, g, im) → Q (some (vI (aYears (σ, m, g, im) a n b i))) KW hi' hl') : Con eX8_years [vR 77, vI a, vI n, vI b, vI i] KW hi hl Q := by
  refine Con.ofV (by decide +kernel) (Nat.le_of_ble_eq_true rfl) ?_
  show V eX8_years none KW 0 [(0, vR 77), (1, vI a), (2, vI n), (3, vI b), (4, vI i)] [] hi hl 0 0 Q
  refine V.hieq (hi' := (upR (upR (upR (upR (upR hi 77 (hi 77)) 86 (hi 86)) 87 (hi 87)) 78 (hi 78)) 79 (hi 79))) (by rw [upR_id, upR_id, upR_id, upR_id, upR_id]) ?_
  obtain ⟨hC, ⟨hm, hm2, hg5, hgr⟩, k0, k1, k2, k3⟩ := RM_o hR
  subst hg5
  have hwf := hC.1
  have hn16 := hwf.2.2.1
  have hbg := hwf.2.2.2.2.1
  refine V.iload_n (pc := 0) 3 dX8_years_0 rfl ?_
  refine V.callS (pc := 1) (e1 := eX8_isBird) 1 [vI b] [] mfX8_isBird slX8_isBird mlX8_103 dX8_years_1 rfl rfl (Nat.le_of_ble_eq_true rfl) ⟨by decide, by decide, by decide, by decide⟩ ?_
  refine c_X8_isBird KW (upR (upR (upR (upR (upR hi 77 (hi 77)) 86 (hi 86)) 87 (hi 87)) 78 (hi 78)) 79 (hi 79)) hl b _ (fun hb => ?_) (fun hb => ?_)
  · skip
    refine V.qI (pc := 1) rfl rfl ?_
    refine V.if_ne (pc := 4) 9 dX8_years_4 (by decide) (fun h4 => ?_) (fun hc => by exact absurd hc (by decide))
    refine V.iload_n (pc := 9) 1 dX8_years_9 rfl ?_
    refine V.iload_n (pc := 10) 2 dX8_years_10 rfl ?_
    refine V.callS (pc := 11) (e1 := eX8_isSeed) 2 [vI a, vI n] [] mfX8_isSeed slX8_isSeed mlX8_267 dX8_years_11 rfl rfl (Nat.le_of_ble_eq_true rfl) ⟨by decide, by decide, by decide, by decide⟩ ?_
    refine c_X8_isSeed KW (upR (upR (upR (upR (upR hi 77 (hi 77)) 86 (hi 86)) 87 (hi 87)) 78 (hi 78)) 79 (hi 79)) hl a n _ (fun hy => ?_) (fun hy => ?_)
    · skip
      refine V.qI (pc := 11) rfl rfl ?_
      refine V.if_ne (pc := 14) 20 dX8_years_14 (by decide) (fun h14 => ?_) (fun hc => by exact absurd hc (by decide))
      obtain ⟨x, rfl⟩ : ∃ x : Nat, a = (x : Int) := ⟨a.toNat, by omega⟩
      obtain ⟨n0, rfl⟩ : ∃ n0 : Nat, n = (n0 : Int) := ⟨n.toNat, by omega⟩
      obtain ⟨b0, rfl⟩ : ∃ b0 : Nat, b = (b0 : Int) := ⟨b.toNat, by omega⟩
      refine V.aload_n (pc := 20) 0 dX8_years_20 rfl ?_
      refine V.callV (pc := 21) (e1 := eX8_forget) (o := 77) (c := 8) 0 [] [] mfX8_forget slX8_forget mlX8_157 dX8_years_21 (kS_77) (by decide) rfl rfl rfl (Nat.le_of_ble_eq_true rfl) ⟨by decide, by decide, by decide, by decide⟩ ?_
      refine c_X8_forget (upR (upR (upR (upR (upR hi 77 (hi 77)) 86 (hi 86)) 87 (hi 87)) 78 (hi 78)) 79 (hi 79)) hl _ (fun fF hFo => ?_)
      refine V.qV (pc := 21) rfl rfl ?_
      refine V.hieq (hi' := (upR (upR (upR (upR (upR hi 77 (hi 77)) 86 fF) 87 (hi 87)) 78 (hi 78)) 79 (hi 79))) (rs (by decide) (rs (by decide) (rs (by decide) r1))) ?_
      refine V.aload_n (pc := 24) 0 dX8_years_24 rfl ?_
      refine V.iload_n (pc := 25) 1 dX8_years_25 rfl ?_
      refine V.pi (pc := 26) (hi' := (upR (upR (upR (upR (upR hi 77 (updF (hi 77) 24 ((x : Nat) : Int))) 86 fF) 87 (hi 87)) 78 (hi 78)) 79 (hi 79))) 8 24 flX8_249 dX8_years_26 (kS_77) (by decide) (by decide) rfl rfl (us (by decide) (us (by decide) (us (by decide) (us (by decide) u1)))) ?_
      refine V.iconst (pc := 29) (z := 1) dX8_years_29 rfl ⟨by decide, by decide⟩ ?_
      refine V.istore (pc := 30) (i := 5) dX8_years_30 (by decide) (ls' := [(5, vI 1), (0, vR 77), (1, vI ((x : Nat) : Int)), (2, vI ((n0 : Nat) : Int)), (3, vI ((b0 : Nat) : Int)), (4, vI i)]) rfl ?_
      have lp32 : ∀ (fu32 : Nat) (d : Nat) (r77 : Nat → Int) (r86 : Nat → Int) (r87 : Nat → Int) (r78 : Nat → Int) (r79 : Nat → Int), (d ≤ n0) → (∀ j, j ≠ 1 → j ≠ 3 → j ≠ 15 → j ≠ 24 → r77 j = hi 77 j) → (r77 24 = ((yrun σ x d).2 : Nat)) → (∀ b, b < 6 → r86 b = encM ((yrun σ x d).1.1 b)) → n0 - d < fu32 → V eX8_years none KW 32 [(0, vR 77), (1, vI ((x : Nat) : Int)), (2, vI ((n0 : Nat) : Int)), (3, vI ((b0 : Nat) : Int)), (4, vI i), (5, vI ((d + 1 : Nat) : Int))] [] (upR (upR (upR (upR (upR hi 77 r77) 86 r86) 87 r87) 78 r78) 79 r79) hl 0 0 Q := by
        intro fu32
        induction fu32 with
        | zero => intro d r77 r86 r87 r78 r79 hd hr h24 h6 hm32; exact absurd hm32 (Nat.not_lt_zero _)
        | succ fu32 ih32 =>
          intro d r77 r86 r87 r78 r79 hd hr h24 h6 hm32
          refine V.iload (pc := 32) 5 dX8_years_32 rfl ?_
          refine V.iload_n (pc := 34) 2 dX8_years_34 rfl ?_
          refine V.icmp_gt (pc := 35) 59 dX8_years_35 (by decide) (fun h35 => ?_) (fun h35 => ?_)
          · skip
            have e0 : d = n0 := by omega
            subst e0
            refine V.aload_n (pc := 59) 0 dX8_years_59 rfl ?_
            refine V.aload_n (pc := 60) 0 dX8_years_60 rfl ?_
            refine V.gr (pc := 61) 8 14 86 flX8_34 dX8_years_61 (kS_77) (by decide) (by decide) rfl (kR_77_14) ?_
            refine V.iload_n (pc := 64) 3 dX8_years_64 rfl ?_
            refine V.ia (pc := 65) (len := 6) b0 (encM ((yrun σ x d).1.1 b0)) dX8_years_65 (kS_86) (rfl) (by omega) (h6 b0 (by omega)) ?_
            refine V.iload (pc := 66) 4 dX8_years_66 rfl ?_
            refine V.callV (pc := 68) (e1 := eX8_signAt) (o := 77) (c := 8) 2 [vI (encM ((yrun σ x d).1.1 b0)), vI i] [] mfX8_signAt slX8_signAt mlX8_168 dX8_years_68 (kS_77) (by decide) rfl rfl rfl (Nat.le_of_ble_eq_true rfl) ⟨by decide, by decide, by decide, by decide⟩ ?_
            refine c_X8_signAt (upR (upR (upR (upR (upR hi 77 r77) 86 r86) 87 r87) 78 r78) 79 r79) hl ((yrun σ x d).1.1 b0) ((okW_yrun hwf d).1 b0) i (hi0) _ (fun fs gs hfs => ?_)
            refine V.qI (pc := 68) rfl rfl ?_
            refine V.hieq (hi' := (upR (upR (upR (upR (upR hi 77 fs) 86 r86) 87 r87) 78 gs) 79 r79)) ((upR_c (rs (by decide) (rs (by decide) (rs (by decide) (rs (by decide) r1))))).trans (rs (by decide) r1)) ?_
            refine V.iret (pc := 71) (z := (wordO (encC ((yrun σ x d).1.1 b0)) i)) dX8_years_71 rfl ?_
            have hA : aYears (σ, m, hi 85, im) (x : Int) (d : Int) (b0 : Int) i = wordO (encC ((yrun σ x d).1.1 b0)) i := by
              unfold aYears
              try dsimp only [gσ, gm, gg, gi]
              refine (if_neg (by first | omega | assumption)).trans ?_
              refine (if_neg (by first | omega | assumption)).trans ?_
              rfl
            rw [hA] at hq
            exact hq _ _ (by repeat (first | exact gr0 | refine gr1 (by decide) ?_ | refine gr2 (by decide) ?_)) (RM_up (hl := hl) hC hm hm2 hgr k0 k1 k2 k3 ((hfs 8 (by decide)).trans (hr 8 (by decide) (by decide) (by decide) (by decide))) ((hfs 9 (by decide)).trans (hr 9 (by decide) (by decide) (by decide) (by decide))) ((hfs 11 (by decide)).trans (hr 11 (by decide) (by decide) (by decide) (by decide))) ((hfs 13 (by decide)).trans (hr 13 (by decide) (by decide) (by decide) (by decide))) rfl rfl rfl rfl rfl rfl rfl rfl)
          · skip
            refine V.aload_n (pc := 38) 0 dX8_years_38 rfl ?_
            refine V.iload (pc := 39) 5 dX8_years_39 rfl ?_
            refine V.iconst (pc := 41) (z := 1) dX8_years_41 rfl ⟨by decide, by decide⟩ ?_
            refine V.icmp_ne (pc := 42) 49 dX8_years_42 (by decide) (fun h42 => ?_) (fun h42 => ?_)
            · skip
              refine V.iconst (pc := 49) (z := 0) dX8_years_49 rfl ⟨by decide, by decide⟩ ?_
              refine V.top (v' := vI (b2i (d == 0))) (by have hd0 : (d == 0) = false := (beq_eq_false_iff_ne.mpr (by omega)); rw [hd0]; rfl) ?_
              refine V.callV (pc := 50) (e1 := eX8_passDay) (o := 77) (c := 8) 1 [vI (b2i (d == 0))] [] mfX8_passDay slX8_passDay mlX8_271 dX8_years_50 (kS_77) (by decide) rfl rfl rfl (Nat.le_of_ble_eq_true rfl) ⟨by decide, by decide, by decide, by decide⟩ ?_
              refine c_X8_passDay (upR (upR (upR (upR (upR hi 77 r77) 86 r86) 87 r87) 78 r78) 79 r79) hl σ (MR_up hC (hr 8 (by decide) (by decide) (by decide) (by decide)) (hr 9 (by decide) (by decide) (by decide) (by decide)) (hr 11 (by decide) (by decide) (by decide) (by decide)) rfl rfl rfl rfl rfl) (d == 0) (yrun σ x d) (okW_yrun hwf d) (yrun_lt (by omega) d) h24 h6 _ (fun f77 f86 f87 f78 f79 hP1 hP2 hP3 => ?_)
              refine V.qV (pc := 50) rfl rfl ?_
              refine V.hieq (hi' := (upR (upR (upR (upR (upR hi 77 f77) 86 f86) 87 f87) 78 f78) 79 f79)) ((upR_c ((upR_c ((upR_c ((upR_c (rs (by decide) (rs (by decide) (rs (by decide) (rs (by decide) r1))))).trans (rs (by decide) (rs (by decide) (rs (by decide) r1))))).trans (rs (by decide) (rs (by decide) r1)))).trans (rs (by decide) r1))).trans r1) ?_
              refine V.iinc (pc := 53) (r := ((d + 1 + 1 : Nat) : Int)) 5 dX8_years_53 rfl (w32_of (by omega) (by omega) (by omega)) (by decide) (ls' := [(5, vI ((d + 1 + 1 : Nat) : Int)), (0, vR 77), (1, vI ((x : Nat) : Int)), (2, vI ((n0 : Nat) : Int)), (3, vI ((b0 : Nat) : Int)), (4, vI i)]) rfl ?_
              refine V.goto (pc := 56) 32 dX8_years_56 (by decide) ?_
              refine V.locs [1, 2, 3, 4, 5, 0] (ls' := [(0, vR 77), (1, vI ((x : Nat) : Int)), (2, vI ((n0 : Nat) : Int)), (3, vI ((b0 : Nat) : Int)), (4, vI i), (5, vI ((d + 1 + 1 : Nat) : Int))]) rfl ?_
              exact ih32 (d + 1) f77 f86 f87 f78 f79 (by omega) (fun j h1 h3 h15 h24 => (hP1 j h1 h3 h15 h24).trans (hr j h1 h3 h15 h24)) (hP2) (hP3) (by omega)
            · skip
              refine V.iconst (pc := 45) (z := 1) dX8_years_45 rfl ⟨by decide, by decide⟩ ?_
              refine V.top (v' := vI (b2i (d == 0))) (by have hd0 : d = 0 := (by omega); subst hd0; rfl) ?_
              refine V.goto (pc := 46) 50 dX8_years_46 (by decide) ?_
              refine V.callV (pc := 50) (e1 := eX8_passDay) (o := 77) (c := 8) 1 [vI (b2i (d == 0))] [] mfX8_passDay slX8_passDay mlX8_271 dX8_years_50 (kS_77) (by decide) rfl rfl rfl (Nat.le_of_ble_eq_true rfl) ⟨by decide, by decide, by decide, by decide⟩ ?_
              refine c_X8_passDay (upR (upR (upR (upR (upR hi 77 r77) 86 r86) 87 r87) 78 r78) 79 r79) hl σ (MR_up hC (hr 8 (by decide) (by decide) (by decide) (by decide)) (hr 9 (by decide) (by decide) (by decide) (by decide)) (hr 11 (by decide) (by decide) (by decide) (by decide)) rfl rfl rfl rfl rfl) (d == 0) (yrun σ x d) (okW_yrun hwf d) (yrun_lt (by omega) d) h24 h6 _ (fun f77 f86 f87 f78 f79 hP1 hP2 hP3 => ?_)
              refine V.qV (pc := 50) rfl rfl ?_
              refine V.hieq (hi' := (upR (upR (upR (upR (upR hi 77 f77) 86 f86) 87 f87) 78 f78) 79 f79)) ((upR_c ((upR_c ((upR_c ((upR_c (rs (by decide) (rs (by decide) (rs (by decide) (rs (by decide) r1))))).trans (rs (by decide) (rs (by decide) (rs (by decide) r1))))).trans (rs (by decide) (rs (by decide) r1)))).trans (rs (by decide) r1))).trans r1) ?_
              refine V.iinc (pc := 53) (r := ((d + 1 + 1 : Nat) : Int)) 5 dX8_years_53 rfl (w32_of (by omega) (by omega) (by omega)) (by decide) (ls' := [(5, vI ((d + 1 + 1 : Nat) : Int)), (0, vR 77), (1, vI ((x : Nat) : Int)), (2, vI ((n0 : Nat) : Int)), (3, vI ((b0 : Nat) : Int)), (4, vI i)]) rfl ?_
              refine V.goto (pc := 56) 32 dX8_years_56 (by decide) ?_
              refine V.locs [1, 2, 3, 4, 5, 0] (ls' := [(0, vR 77), (1, vI ((x : Nat) : Int)), (2, vI ((n0 : Nat) : Int)), (3, vI ((b0 : Nat) : Int)), (4, vI i), (5, vI ((d + 1 + 1 : Nat) : Int))]) rfl ?_
              exact ih32 (d + 1) f77 f86 f87 f78 f79 (by omega) (fun j h1 h3 h15 h24 => (hP1 j h1 h3 h15 h24).trans (hr j h1 h3 h15 h24)) (hP2) (hP3) (by omega)
      refine V.locs [1, 2, 3, 4, 5, 0] (ls' := [(0, vR 77), (1, vI ((x : Nat) : Int)), (2, vI ((n0 : Nat) : Int)), (3, vI ((b0 : Nat) : Int)), (4, vI i), (5, vI 1)]) rfl ?_
      exact lp32 _ 0 (updF (hi 77) 24 ((x : Nat) : Int)) fF (hi 87) (hi 78) (hi 79) (by omega) (fun j _ _ _ h => updF_n h) (updF_s) (hFo) (Nat.lt_succ_self _)
    · skip
      refine V.qI (pc := 11) rfl rfl ?_
      refine V.if_ne (pc := 14) 20 dX8_years_14 (by decide) (fun hc => by exact absurd hc (by decide)) (fun h14 => ?_)
      refine V.bipush (pc := 17) (z := (-2)) dX8_years_17 (by decide +kernel) ⟨by decide, by decide⟩ ?_
      refine V.iret (pc := 19) (z := (-2)) dX8_years_19 rfl ?_
      rw [upR_id, upR_id, upR_id, upR_id, upR_id]
      have hA : aYears (σ, m, hi 85, im) a n b i = -2 := by
        unfold aYears
        try dsimp only [gσ, gm, gg, gi]
        refine (if_neg (by first | omega | assumption)).trans ?_
        refine (if_pos (by first | omega | assumption)).trans ?_
        rfl
      rw [hA] at hq
      exact hq _ _ (by repeat (first | exact gr0 | refine gr1 (by decide) ?_ | refine gr2 (by decide) ?_)) hR
  · skip
    refine V.qI (pc := 1) rfl rfl ?_
    refine V.if_ne (pc := 4) 9 dX8_years_4 (by decide) (fun hc => by exact absurd hc (by decide)) (fun h4 => ?_)
    refine V.iconst (pc := 7) (z := (-1)) dX8_years_7 rfl ⟨by decide, by decide⟩ ?_
    refine V.iret (pc := 8) (z := (-1)) dX8_years_8 rfl ?_
    rw [upR_id, upR_id, upR_id, upR_id, upR_id]
    have hA : aYears (σ, m, hi 85, im) a n b i = -1 := by
      unfold aYears
      try dsimp only [gσ, gm, gg, gi]
      refine (if_pos (by first | omega | assumption)).trans ?_
      rfl
    rw [hA] at hq
    exact hq _ _ (by repeat (first | exact gr0 | refine gr1 (by decide) ?_ | refine gr2 (by decide) ?_)) hR

set_option maxRecDepth 100000 in
theorem c_X8_lost (hi hl : HI) (σ : SG) (m : Nat) (g : Nat → Int) (im : Nat → Option SG) (hR : RMo hi hl (σ, m, g, im)) (a : Int) (n : Int) (b : Int) (Q : QT) (hq : ∀ hi' hl' : HI, FrM hi hl hi' hl' → RMo hi' hl' (σ, m, g, im) → Q (some (vI (aLost (σ, m, g, im) a n b))) KW hi' hl') : Con eX8_lost [vR 77, vI a, vI n, vI b] KW hi hl Q := by
  refine Con.ofV (by decide +kernel) (Nat.le_of_ble_eq_true rfl) ?_
  show V eX8_lost none KW 0 [(0, vR 77), (1, vI a), (2, vI n), (3, vI b)] [] hi hl 0 0 Q
  refine V.hieq (hi' := (upR (upR (upR (upR (upR hi 77 (hi 77)) 86 (hi 86)) 87 (hi 87)) 78 (hi 78)) 79 (hi 79))) (by rw [upR_id, upR_id, upR_id, upR_id, upR_id]) ?_
  obtain ⟨hC, ⟨hm, hm2, hg5, hgr⟩, k0, k1, k2, k3⟩ := RM_o hR
  subst hg5
  have hwf := hC.1
  have hn16 := hwf.2.2.1
  have hbg := hwf.2.2.2.2.1
  refine V.iload_n (pc := 0) 3 dX8_lost_0 rfl ?_
  refine V.callS (pc := 1) (e1 := eX8_isBird) 1 [vI b] [] mfX8_isBird slX8_isBird mlX8_103 dX8_lost_1 rfl rfl (Nat.le_of_ble_eq_true rfl) ⟨by decide, by decide, by decide, by decide⟩ ?_
  refine c_X8_isBird KW (upR (upR (upR (upR (upR hi 77 (hi 77)) 86 (hi 86)) 87 (hi 87)) 78 (hi 78)) 79 (hi 79)) hl b _ (fun hb => ?_) (fun hb => ?_)
  · skip
    refine V.qI (pc := 1) rfl rfl ?_
    refine V.if_ne (pc := 4) 9 dX8_lost_4 (by decide) (fun h4 => ?_) (fun hc => by exact absurd hc (by decide))
    refine V.iload_n (pc := 9) 1 dX8_lost_9 rfl ?_
    refine V.iload_n (pc := 10) 2 dX8_lost_10 rfl ?_
    refine V.callS (pc := 11) (e1 := eX8_isSeed) 2 [vI a, vI n] [] mfX8_isSeed slX8_isSeed mlX8_267 dX8_lost_11 rfl rfl (Nat.le_of_ble_eq_true rfl) ⟨by decide, by decide, by decide, by decide⟩ ?_
    refine c_X8_isSeed KW (upR (upR (upR (upR (upR hi 77 (hi 77)) 86 (hi 86)) 87 (hi 87)) 78 (hi 78)) 79 (hi 79)) hl a n _ (fun hy => ?_) (fun hy => ?_)
    · skip
      refine V.qI (pc := 11) rfl rfl ?_
      refine V.if_ne (pc := 14) 20 dX8_lost_14 (by decide) (fun h14 => ?_) (fun hc => by exact absurd hc (by decide))
      obtain ⟨x, rfl⟩ : ∃ x : Nat, a = (x : Int) := ⟨a.toNat, by omega⟩
      obtain ⟨n0, rfl⟩ : ∃ n0 : Nat, n = (n0 : Int) := ⟨n.toNat, by omega⟩
      obtain ⟨b0, rfl⟩ : ∃ b0 : Nat, b = (b0 : Int) := ⟨b.toNat, by omega⟩
      refine V.aload_n (pc := 20) 0 dX8_lost_20 rfl ?_
      refine V.callV (pc := 21) (e1 := eX8_forget) (o := 77) (c := 8) 0 [] [] mfX8_forget slX8_forget mlX8_157 dX8_lost_21 (kS_77) (by decide) rfl rfl rfl (Nat.le_of_ble_eq_true rfl) ⟨by decide, by decide, by decide, by decide⟩ ?_
      refine c_X8_forget (upR (upR (upR (upR (upR hi 77 (hi 77)) 86 (hi 86)) 87 (hi 87)) 78 (hi 78)) 79 (hi 79)) hl _ (fun fF hFo => ?_)
      refine V.qV (pc := 21) rfl rfl ?_
      refine V.hieq (hi' := (upR (upR (upR (upR (upR hi 77 (hi 77)) 86 fF) 87 (hi 87)) 78 (hi 78)) 79 (hi 79))) (rs (by decide) (rs (by decide) (rs (by decide) r1))) ?_
      refine V.aload_n (pc := 24) 0 dX8_lost_24 rfl ?_
      refine V.iload_n (pc := 25) 1 dX8_lost_25 rfl ?_
      refine V.pi (pc := 26) (hi' := (upR (upR (upR (upR (upR hi 77 (updF (hi 77) 24 ((x : Nat) : Int))) 86 fF) 87 (hi 87)) 78 (hi 78)) 79 (hi 79))) 8 24 flX8_249 dX8_lost_26 (kS_77) (by decide) (by decide) rfl rfl (us (by decide) (us (by decide) (us (by decide) (us (by decide) u1)))) ?_
      refine V.iconst (pc := 29) (z := 1) dX8_lost_29 rfl ⟨by decide, by decide⟩ ?_
      refine V.istore (pc := 30) (i := 4) dX8_lost_30 (by decide) (ls' := [(4, vI 1), (0, vR 77), (1, vI ((x : Nat) : Int)), (2, vI ((n0 : Nat) : Int)), (3, vI ((b0 : Nat) : Int))]) rfl ?_
      have lp32 : ∀ (fu32 : Nat) (d : Nat) (r77 : Nat → Int) (r86 : Nat → Int) (r87 : Nat → Int) (r78 : Nat → Int) (r79 : Nat → Int), (d ≤ n0) → (∀ j, j ≠ 1 → j ≠ 3 → j ≠ 15 → j ≠ 24 → r77 j = hi 77 j) → (r77 24 = ((yrun σ x d).2 : Nat)) → (∀ b, b < 6 → r86 b = encM ((yrun σ x d).1.1 b)) → (lsF σ x b0 d = -6) → n0 - d < fu32 → V eX8_lost none KW 32 [(0, vR 77), (1, vI ((x : Nat) : Int)), (2, vI ((n0 : Nat) : Int)), (3, vI ((b0 : Nat) : Int)), (4, vI ((d + 1 : Nat) : Int))] [] (upR (upR (upR (upR (upR hi 77 r77) 86 r86) 87 r87) 78 r78) 79 r79) hl 0 0 Q := by
        intro fu32
        induction fu32 with
        | zero => intro d r77 r86 r87 r78 r79 hd hr h24 h6 hls hm32; exact absurd hm32 (Nat.not_lt_zero _)
        | succ fu32 ih32 =>
          intro d r77 r86 r87 r78 r79 hd hr h24 h6 hls hm32
          refine V.iload (pc := 32) 4 dX8_lost_32 rfl ?_
          refine V.iload_n (pc := 34) 2 dX8_lost_34 rfl ?_
          refine V.icmp_gt (pc := 35) 75 dX8_lost_35 (by decide) (fun h35 => ?_) (fun h35 => ?_)
          · skip
            refine V.bipush (pc := 75) (z := (-6)) dX8_lost_75 (by decide +kernel) ⟨by decide, by decide⟩ ?_
            refine V.iret (pc := 77) (z := (-6)) dX8_lost_77 rfl ?_
            have e0 : d = n0 := by omega
            subst e0
            have hA : aLost (σ, m, hi 85, im) (x : Int) (d : Int) (b0 : Int) = -6 := by
              unfold aLost
              try dsimp only [gσ, gm, gg, gi]
              refine (if_neg (by first | omega | assumption)).trans ?_
              refine (if_neg (by first | omega | assumption)).trans ?_
              exact hls
            rw [hA] at hq
            exact hq _ _ (by repeat (first | exact gr0 | refine gr1 (by decide) ?_ | refine gr2 (by decide) ?_)) (RM_up (hl := hl) hC hm hm2 hgr k0 k1 k2 k3 (hr 8 (by decide) (by decide) (by decide) (by decide)) (hr 9 (by decide) (by decide) (by decide) (by decide)) (hr 11 (by decide) (by decide) (by decide) (by decide)) (hr 13 (by decide) (by decide) (by decide) (by decide)) rfl rfl rfl rfl rfl rfl rfl rfl)
          · skip
            refine V.aload_n (pc := 38) 0 dX8_lost_38 rfl ?_
            refine V.iload (pc := 39) 4 dX8_lost_39 rfl ?_
            refine V.iconst (pc := 41) (z := 1) dX8_lost_41 rfl ⟨by decide, by decide⟩ ?_
            refine V.icmp_ne (pc := 42) 49 dX8_lost_42 (by decide) (fun h42 => ?_) (fun h42 => ?_)
            · skip
              refine V.iconst (pc := 49) (z := 0) dX8_lost_49 rfl ⟨by decide, by decide⟩ ?_
              refine V.top (v' := vI (b2i (d == 0))) (by have hd0 : (d == 0) = false := (beq_eq_false_iff_ne.mpr (by omega)); rw [hd0]; rfl) ?_
              refine V.callV (pc := 50) (e1 := eX8_passDay) (o := 77) (c := 8) 1 [vI (b2i (d == 0))] [] mfX8_passDay slX8_passDay mlX8_271 dX8_lost_50 (kS_77) (by decide) rfl rfl rfl (Nat.le_of_ble_eq_true rfl) ⟨by decide, by decide, by decide, by decide⟩ ?_
              refine c_X8_passDay (upR (upR (upR (upR (upR hi 77 r77) 86 r86) 87 r87) 78 r78) 79 r79) hl σ (MR_up hC (hr 8 (by decide) (by decide) (by decide) (by decide)) (hr 9 (by decide) (by decide) (by decide) (by decide)) (hr 11 (by decide) (by decide) (by decide) (by decide)) rfl rfl rfl rfl rfl) (d == 0) (yrun σ x d) (okW_yrun hwf d) (yrun_lt (by omega) d) h24 h6 _ (fun f77 f86 f87 f78 f79 hP1 hP2 hP3 => ?_)
              refine V.qV (pc := 50) rfl rfl ?_
              refine V.hieq (hi' := (upR (upR (upR (upR (upR hi 77 f77) 86 f86) 87 f87) 78 f78) 79 f79)) ((upR_c ((upR_c ((upR_c ((upR_c (rs (by decide) (rs (by decide) (rs (by decide) (rs (by decide) r1))))).trans (rs (by decide) (rs (by decide) (rs (by decide) r1))))).trans (rs (by decide) (rs (by decide) r1)))).trans (rs (by decide) r1))).trans r1) ?_
              refine V.aload_n (pc := 53) 0 dX8_lost_53 rfl ?_
              refine V.gr (pc := 54) 8 14 86 flX8_34 dX8_lost_54 (kS_77) (by decide) (by decide) rfl (kR_77_14) ?_
              refine V.iload_n (pc := 57) 3 dX8_lost_57 rfl ?_
              refine V.ia (pc := 58) (len := 6) b0 (encM ((yrun σ x (d + 1)).1.1 b0)) dX8_lost_58 (kS_86) (rfl) (by omega) (hP3 b0 (by omega)) ?_
              refine V.aload_n (pc := 59) 0 dX8_lost_59 rfl ?_
              refine V.gi (pc := 60) 8 9 ((bg σ : Nat) : Int) flX8_147 dX8_lost_60 (kS_77) (by decide) (by decide) rfl (((hP1 9 (by decide) (by decide) (by decide) (by decide)).trans (hr 9 (by decide) (by decide) (by decide) (by decide))).trans hC.2.2.2.2.2.1) ?_
              refine V.icmp_eq (pc := 63) 69 dX8_lost_63 (by decide) (fun h63 => ?_) (fun h63 => ?_)
              · have hne : ¬ encC ((yrun σ x (d + 1)).1.1 b0) ≠ (bg σ : Nat) := fun q => encMC.mpr q (by omega)
                refine V.iinc (pc := 69) (r := ((d + 1 + 1 : Nat) : Int)) 4 dX8_lost_69 rfl (w32_of (by omega) (by omega) (by omega)) (by decide) (ls' := [(4, vI ((d + 1 + 1 : Nat) : Int)), (0, vR 77), (1, vI ((x : Nat) : Int)), (2, vI ((n0 : Nat) : Int)), (3, vI ((b0 : Nat) : Int))]) rfl ?_
                refine V.goto (pc := 72) 32 dX8_lost_72 (by decide) ?_
                refine V.locs [1, 2, 3, 4, 0] (ls' := [(0, vR 77), (1, vI ((x : Nat) : Int)), (2, vI ((n0 : Nat) : Int)), (3, vI ((b0 : Nat) : Int)), (4, vI ((d + 1 + 1 : Nat) : Int))]) rfl ?_
                exact ih32 (d + 1) f77 f86 f87 f78 f79 (by omega) (fun j h1 h3 h15 h24 => (hP1 j h1 h3 h15 h24).trans (hr j h1 h3 h15 h24)) (hP2) (hP3) (lsF_go hls hne) (by omega)
              · have hne : encC ((yrun σ x (d + 1)).1.1 b0) ≠ (bg σ : Nat) := encMC.mp (by omega)
                refine V.iload (pc := 66) 4 dX8_lost_66 rfl ?_
                refine V.iret (pc := 68) (z := ((d + 1 : Nat) : Int)) dX8_lost_68 rfl ?_
                have hA : aLost (σ, m, hi 85, im) (x : Int) (n0 : Int) (b0 : Int) = ((d + 1 : Nat) : Int) := by
                  unfold aLost
                  try dsimp only [gσ, gm, gg, gi]
                  refine (if_neg (by first | omega | assumption)).trans ?_
                  refine (if_neg (by first | omega | assumption)).trans ?_
                  exact lsF_hit hls hne n0 (by omega)
                rw [hA] at hq
                exact hq _ _ (by repeat (first | exact gr0 | refine gr1 (by decide) ?_ | refine gr2 (by decide) ?_)) (RM_up (hl := hl) hC hm hm2 hgr k0 k1 k2 k3 ((hP1 8 (by decide) (by decide) (by decide) (by decide)).trans (hr 8 (by decide) (by decide) (by decide) (by decide))) ((hP1 9 (by decide) (by decide) (by decide) (by decide)).trans (hr 9 (by decide) (by decide) (by decide) (by decide))) ((hP1 11 (by decide) (by decide) (by decide) (by decide)).trans (hr 11 (by decide) (by decide) (by decide) (by decide))) ((hP1 13 (by decide) (by decide) (by decide) (by decide)).trans (hr 13 (by decide) (by decide) (by decide) (by decide))) rfl rfl rfl rfl rfl rfl rfl rfl)
            · skip
              refine V.iconst (pc := 45) (z := 1) dX8_lost_45 rfl ⟨by decide, by decide⟩ ?_
              refine V.top (v' := vI (b2i (d == 0))) (by have hd0 : d = 0 := (by omega); subst hd0; rfl) ?_
              refine V.goto (pc := 46) 50 dX8_lost_46 (by decide) ?_
              refine V.callV (pc := 50) (e1 := eX8_passDay) (o := 77) (c := 8) 1 [vI (b2i (d == 0))] [] mfX8_passDay slX8_passDay mlX8_271 dX8_lost_50 (kS_77) (by decide) rfl rfl rfl (Nat.le_of_ble_eq_true rfl) ⟨by decide, by decide, by decide, by decide⟩ ?_
              refine c_X8_passDay (upR (upR (upR (upR (upR hi 77 r77) 86 r86) 87 r87) 78 r78) 79 r79) hl σ (MR_up hC (hr 8 (by decide) (by decide) (by decide) (by decide)) (hr 9 (by decide) (by decide) (by decide) (by decide)) (hr 11 (by decide) (by decide) (by decide) (by decide)) rfl rfl rfl rfl rfl) (d == 0) (yrun σ x d) (okW_yrun hwf d) (yrun_lt (by omega) d) h24 h6 _ (fun f77 f86 f87 f78 f79 hP1 hP2 hP3 => ?_)
              refine V.qV (pc := 50) rfl rfl ?_
              refine V.hieq (hi' := (upR (upR (upR (upR (upR hi 77 f77) 86 f86) 87 f87) 78 f78) 79 f79)) ((upR_c ((upR_c ((upR_c ((upR_c (rs (by decide) (rs (by decide) (rs (by decide) (rs (by decide) r1))))).trans (rs (by decide) (rs (by decide) (rs (by decide) r1))))).trans (rs (by decide) (rs (by decide) r1)))).trans (rs (by decide) r1))).trans r1) ?_
              refine V.aload_n (pc := 53) 0 dX8_lost_53 rfl ?_
              refine V.gr (pc := 54) 8 14 86 flX8_34 dX8_lost_54 (kS_77) (by decide) (by decide) rfl (kR_77_14) ?_
              refine V.iload_n (pc := 57) 3 dX8_lost_57 rfl ?_
              refine V.ia (pc := 58) (len := 6) b0 (encM ((yrun σ x (d + 1)).1.1 b0)) dX8_lost_58 (kS_86) (rfl) (by omega) (hP3 b0 (by omega)) ?_
              refine V.aload_n (pc := 59) 0 dX8_lost_59 rfl ?_
              refine V.gi (pc := 60) 8 9 ((bg σ : Nat) : Int) flX8_147 dX8_lost_60 (kS_77) (by decide) (by decide) rfl (((hP1 9 (by decide) (by decide) (by decide) (by decide)).trans (hr 9 (by decide) (by decide) (by decide) (by decide))).trans hC.2.2.2.2.2.1) ?_
              refine V.icmp_eq (pc := 63) 69 dX8_lost_63 (by decide) (fun h63 => ?_) (fun h63 => ?_)
              · have hne : ¬ encC ((yrun σ x (d + 1)).1.1 b0) ≠ (bg σ : Nat) := fun q => encMC.mpr q (by omega)
                refine V.iinc (pc := 69) (r := ((d + 1 + 1 : Nat) : Int)) 4 dX8_lost_69 rfl (w32_of (by omega) (by omega) (by omega)) (by decide) (ls' := [(4, vI ((d + 1 + 1 : Nat) : Int)), (0, vR 77), (1, vI ((x : Nat) : Int)), (2, vI ((n0 : Nat) : Int)), (3, vI ((b0 : Nat) : Int))]) rfl ?_
                refine V.goto (pc := 72) 32 dX8_lost_72 (by decide) ?_
                refine V.locs [1, 2, 3, 4, 0] (ls' := [(0, vR 77), (1, vI ((x : Nat) : Int)), (2, vI ((n0 : Nat) : Int)), (3, vI ((b0 : Nat) : Int)), (4, vI ((d + 1 + 1 : Nat) : Int))]) rfl ?_
                exact ih32 (d + 1) f77 f86 f87 f78 f79 (by omega) (fun j h1 h3 h15 h24 => (hP1 j h1 h3 h15 h24).trans (hr j h1 h3 h15 h24)) (hP2) (hP3) (lsF_go hls hne) (by omega)
              · have hne : encC ((yrun σ x (d + 1)).1.1 b0) ≠ (bg σ : Nat) := encMC.mp (by omega)
                refine V.iload (pc := 66) 4 dX8_lost_66 rfl ?_
                refine V.iret (pc := 68) (z := ((d + 1 : Nat) : Int)) dX8_lost_68 rfl ?_
                have hA : aLost (σ, m, hi 85, im) (x : Int) (n0 : Int) (b0 : Int) = ((d + 1 : Nat) : Int) := by
                  unfold aLost
                  try dsimp only [gσ, gm, gg, gi]
                  refine (if_neg (by first | omega | assumption)).trans ?_
                  refine (if_neg (by first | omega | assumption)).trans ?_
                  exact lsF_hit hls hne n0 (by omega)
                rw [hA] at hq
                exact hq _ _ (by repeat (first | exact gr0 | refine gr1 (by decide) ?_ | refine gr2 (by decide) ?_)) (RM_up (hl := hl) hC hm hm2 hgr k0 k1 k2 k3 ((hP1 8 (by decide) (by decide) (by decide) (by decide)).trans (hr 8 (by decide) (by decide) (by decide) (by decide))) ((hP1 9 (by decide) (by decide) (by decide) (by decide)).trans (hr 9 (by decide) (by decide) (by decide) (by decide))) ((hP1 11 (by decide) (by decide) (by decide) (by decide)).trans (hr 11 (by decide) (by decide) (by decide) (by decide))) ((hP1 13 (by decide) (by decide) (by decide) (by decide)).trans (hr 13 (by decide) (by decide) (by decide) (by decide))) rfl rfl rfl rfl rfl rfl rfl rfl)
      refine V.locs [1, 2, 3, 4, 0] (ls' := [(0, vR 77), (1, vI ((x : Nat) : Int)), (2, vI ((n0 : Nat) : Int)), (3, vI ((b0 : Nat) : Int)), (4, vI 1)]) rfl ?_
      exact lp32 _ 0 (updF (hi 77) 24 ((x : Nat) : Int)) fF (hi 87) (hi 78) (hi 79) (by omega) (fun j _ _ _ h => updF_n h) (updF_s) (hFo) (rfl) (Nat.lt_succ_self _)
    · skip
      refine V.qI (pc := 11) rfl rfl ?_
      refine V.if_ne (pc := 14) 20 dX8_lost_14 (by decide) (fun hc => by exact absurd hc (by decide)) (fun h14 => ?_)
      refine V.bipush (pc := 17) (z := (-2)) dX8_lost_17 (by decide +kernel) ⟨by decide, by decide⟩ ?_
      refine V.iret (pc := 19) (z := (-2)) dX8_lost_19 rfl ?_
      rw [upR_id, upR_id, upR_id, upR_id, upR_id]
      have hA : aLost (σ, m, hi 85, im) a n b = -2 := by
        unfold aLost
        try dsimp only [gσ, gm, gg, gi]
        refine (if_neg (by first | omega | assumption)).trans ?_
        refine (if_pos (by first | omega | assumption)).trans ?_
        rfl
      rw [hA] at hq
      exact hq _ _ (by repeat (first | exact gr0 | refine gr1 (by decide) ?_ | refine gr2 (by decide) ?_)) hR
  · skip
    refine V.qI (pc := 1) rfl rfl ?_
    refine V.if_ne (pc := 4) 9 dX8_lost_4 (by decide) (fun hc => by exact absurd hc (by decide)) (fun h4 => ?_)
    refine V.iconst (pc := 7) (z := (-1)) dX8_lost_7 rfl ⟨by decide, by decide⟩ ?_
    refine V.iret (pc := 8) (z := (-1)) dX8_lost_8 rfl ?_
    rw [upR_id, upR_id, upR_id, upR_id, upR_id]
    have hA : aLost (σ, m, hi 85, im) a n b = -1 := by
      unfold aLost
      try dsimp only [gσ, gm, gg, gi]
      refine (if_pos (by first | omega | assumption)).trans ?_
      rfl
    rw [hA] at hq
    exact hq _ _ (by repeat (first | exact gr0 | refine gr1 (by decide) ?_ | refine gr2 (by decide) ?_)) hR

set_option maxRecDepth 100000 in
theorem c_X8_passW (hi hl : HI) (k : Nat) (hk : hi 77 27 = (k : Nat)) (hk2 : k < 160) (h28 : hi 77 28 = 1) (v : Int) (Q : QT) (hq : Q (some (vI v)) KW (upR (upR hi 77 (updF (hi 77) 27 ((k + 1 : Nat) : Int))) 94 (updF (hi 94) k v)) hl) : Con eX8_pass [vR 77, vI v] KW hi hl Q := by
  refine Con.ofV (by decide +kernel) (Nat.le_of_ble_eq_true rfl) ?_
  show V eX8_pass none KW 0 [(0, vR 77), (1, vI v)] [] hi hl 0 0 Q
  refine V.hieq (hi' := (upR (upR hi 77 (hi 77)) 94 (hi 94))) (by rw [upR_id, upR_id]) ?_
  refine V.aload_n (pc := 0) 0 dX8_pass_0 rfl ?_
  refine V.gi (pc := 1) 8 28 1 flX8_275 dX8_pass_1 (kS_77) (by decide) (by decide) rfl (h28) ?_
  refine V.if_eq (pc := 4) 11 dX8_pass_4 (by decide) (fun hc => by exact absurd hc (by decide)) (fun h4 => ?_)
  refine V.iload_n (pc := 7) 1 dX8_pass_7 rfl ?_
  refine V.goto (pc := 8) 20 dX8_pass_8 (by decide) ?_
  refine V.istore_n (pc := 20) (i := 2) dX8_pass_20 rfl (by decide) (ls' := [(2, vI v), (0, vR 77), (1, vI v)]) rfl ?_
  refine V.aload_n (pc := 21) 1 dX8_pass_21 rfl ?_
  refine V.gr (pc := 22) 8 25 94 flX8_60 dX8_pass_22 (kS_77) (by decide) (by decide) rfl (kR_77_25) ?_
  refine V.aload_n (pc := 25) 1 dX8_pass_25 rfl ?_
  refine V.gi (pc := 26) 8 27 ((k : Nat) : Int) flX8_279 dX8_pass_26 (kS_77) (by decide) (by decide) rfl (hk) ?_
  refine V.iload_n (pc := 29) 0 dX8_pass_29 rfl ?_
  refine V.is (pc := 30) (len := 160) (hi' := (upR (upR hi 77 (hi 77)) 94 (updF (hi 94) k v))) k dX8_pass_30 (kS_94) (rfl) (by omega) u1 ?_
  refine V.aload_n (pc := 31) 1 dX8_pass_31 rfl ?_
  refine V.dup (pc := 32) dX8_pass_32 rfl ?_
  refine V.gi (pc := 33) 8 27 ((k : Nat) : Int) flX8_279 dX8_pass_33 (kS_77) (by decide) (by decide) rfl (hk) ?_
  refine V.iconst (pc := 36) (z := 1) dX8_pass_36 rfl ⟨by decide, by decide⟩ ?_
  refine V.iadd (pc := 37) ((((k + 1) : Nat) : Int)) dX8_pass_37 (addN (a := k) (b := 1) (by omega)) ?_
  refine V.pi (pc := 38) (hi' := (upR (upR hi 77 (updF (hi 77) 27 (((k + 1) : Nat) : Int))) 94 (updF (hi 94) k v))) 8 27 flX8_279 dX8_pass_38 (kS_77) (by decide) (by decide) rfl rfl (us (by decide) u1) ?_
  refine V.iload_n (pc := 41) 0 dX8_pass_41 rfl ?_
  refine V.iret (pc := 42) (z := v) dX8_pass_42 rfl ?_
  exact hq

set_option maxRecDepth 100000 in
theorem c_X8_passR (hi hl : HI) (k : Nat) (hk : hi 77 27 = (k : Nat)) (hk2 : k < 160) (h28 : hi 77 28 = 0) (v : Int) (Q : QT) (hq : Q (some (vI (hi 94 k))) KW (upR (upR hi 77 (updF (hi 77) 27 ((k + 1 : Nat) : Int))) 94 (updF (hi 94) k (hi 94 k))) hl) : Con eX8_pass [vR 77, vI v] KW hi hl Q := by
  refine Con.ofV (by decide +kernel) (Nat.le_of_ble_eq_true rfl) ?_
  show V eX8_pass none KW 0 [(0, vR 77), (1, vI v)] [] hi hl 0 0 Q
  refine V.hieq (hi' := (upR (upR hi 77 (hi 77)) 94 (hi 94))) (by rw [upR_id, upR_id]) ?_
  refine V.aload_n (pc := 0) 0 dX8_pass_0 rfl ?_
  refine V.gi (pc := 1) 8 28 0 flX8_275 dX8_pass_1 (kS_77) (by decide) (by decide) rfl (h28) ?_
  refine V.if_eq (pc := 4) 11 dX8_pass_4 (by decide) (fun h4 => ?_) (fun hc => by exact absurd hc (by decide))
  refine V.aload_n (pc := 11) 0 dX8_pass_11 rfl ?_
  refine V.gr (pc := 12) 8 25 94 flX8_60 dX8_pass_12 (kS_77) (by decide) (by decide) rfl (kR_77_25) ?_
  refine V.aload_n (pc := 15) 0 dX8_pass_15 rfl ?_
  refine V.gi (pc := 16) 8 27 ((k : Nat) : Int) flX8_279 dX8_pass_16 (kS_77) (by decide) (by decide) rfl (hk) ?_
  refine V.ia (pc := 19) (len := 160) k (hi 94 k) dX8_pass_19 (kS_94) (rfl) (by omega) (rfl) ?_
  refine V.istore_n (pc := 20) (i := 2) dX8_pass_20 rfl (by decide) (ls' := [(2, vI (hi 94 k)), (0, vR 77), (1, vI v)]) rfl ?_
  refine V.aload_n (pc := 21) 1 dX8_pass_21 rfl ?_
  refine V.gr (pc := 22) 8 25 94 flX8_60 dX8_pass_22 (kS_77) (by decide) (by decide) rfl (kR_77_25) ?_
  refine V.aload_n (pc := 25) 1 dX8_pass_25 rfl ?_
  refine V.gi (pc := 26) 8 27 ((k : Nat) : Int) flX8_279 dX8_pass_26 (kS_77) (by decide) (by decide) rfl (hk) ?_
  refine V.iload_n (pc := 29) 0 dX8_pass_29 rfl ?_
  refine V.is (pc := 30) (len := 160) (hi' := (upR (upR hi 77 (hi 77)) 94 (updF (hi 94) k (hi 94 k)))) k dX8_pass_30 (kS_94) (rfl) (by omega) u1 ?_
  refine V.aload_n (pc := 31) 1 dX8_pass_31 rfl ?_
  refine V.dup (pc := 32) dX8_pass_32 rfl ?_
  refine V.gi (pc := 33) 8 27 ((k : Nat) : Int) flX8_279 dX8_pass_33 (kS_77) (by decide) (by decide) rfl (hk) ?_
  refine V.iconst (pc := 36) (z := 1) dX8_pass_36 rfl ⟨by decide, by decide⟩ ?_
  refine V.iadd (pc := 37) ((((k + 1) : Nat) : Int)) dX8_pass_37 (addN (a := k) (b := 1) (by omega)) ?_
  refine V.pi (pc := 38) (hi' := (upR (upR hi 77 (updF (hi 77) 27 (((k + 1) : Nat) : Int))) 94 (updF (hi 94) k (hi 94 k)))) 8 27 flX8_279 dX8_pass_38 (kS_77) (by decide) (by decide) rfl rfl (us (by decide) u1) ?_
  refine V.iload_n (pc := 41) 0 dX8_pass_41 rfl ?_
  refine V.iret (pc := 42) (z := (hi 94 k)) dX8_pass_42 rfl ?_
  exact hq

set_option maxRecDepth 100000 in
theorem c_X8_passAllW (hi hl : HI) (b0 : Nat) (hb0 : b0 ≤ 80) (hk0 : hi 77 27 = (b0 : Nat)) (h28 : hi 77 28 = 1) (Q : QT) (hq : ∀ f77 f80 f84 f94 f81 f82 f83 : Nat → Int, (∀ j, j ≠ 27 → f77 j = hi 77 j) → f80 = hi 80 → f84 = hi 84 → f81 = hi 81 → f82 = hi 82 → f83 = hi 83 → K2 hi b0 f94 16 → Q none KW (upR (upR (upR (upR (upR (upR (upR hi 77 f77) 80 f80) 84 f84) 94 f94) 81 f81) 82 f82) 83 f83) hl) : Con eX8_passAll [vR 77] KW hi hl Q := by
  refine Con.ofV (by decide +kernel) (Nat.le_of_ble_eq_true rfl) ?_
  show V eX8_passAll none KW 0 [(0, vR 77)] [] hi hl 0 0 Q
  refine V.hieq (hi' := (upR (upR (upR (upR (upR (upR (upR hi 77 (hi 77)) 80 (hi 80)) 84 (hi 84)) 94 (hi 94)) 81 (hi 81)) 82 (hi 82)) 83 (hi 83))) (by rw [upR_id, upR_id, upR_id, upR_id, upR_id, upR_id, upR_id]) ?_
  refine V.aload_n (pc := 0) 0 dX8_passAll_0 rfl ?_
  refine V.aload_n (pc := 1) 0 dX8_passAll_1 rfl ?_
  refine V.aload_n (pc := 2) 0 dX8_passAll_2 rfl ?_
  refine V.gi (pc := 3) 8 8 (hi 77 8) flX8_138 dX8_passAll_3 (kS_77) (by decide) (by decide) rfl (rfl) ?_
  refine V.callV (pc := 6) (e1 := eX8_pass) (o := 77) (c := 8) 1 [vI (hi 77 8)] [vR 77] mfX8_pass slX8_pass mlX8_282 dX8_passAll_6 (kS_77) (by decide) rfl rfl rfl (Nat.le_of_ble_eq_true rfl) ⟨by decide, by decide, by decide, by decide⟩ ?_
  refine c_X8_passW (upR (upR (upR (upR (upR (upR (upR hi 77 (hi 77)) 80 (hi 80)) 84 (hi 84)) 94 (hi 94)) 81 (hi 81)) 82 (hi 82)) 83 (hi 83)) hl b0 (hk0) (by omega) (h28) (hi 77 8) _ ?_
  refine V.qI (pc := 6) rfl rfl ?_
  refine V.hieq (hi' := (upR (upR (upR (upR (upR (upR (upR hi 77 (updF (hi 77) 27 ((b0 + 1 : Nat) : Int))) 80 (hi 80)) 84 (hi 84)) 94 (updF (hi 94) b0 (hi 77 8))) 81 (hi 81)) 82 (hi 82)) 83 (hi 83))) ((upR_c (rs (by decide) (rs (by decide) (rs (by decide) (rs (by decide) (rs (by decide) (rs (by decide) r1))))))).trans (rs (by decide) (rs (by decide) (rs (by decide) r1)))) ?_
  refine V.pi (pc := 9) (hi' := (upR (upR (upR (upR (upR (upR (upR hi 77 (updF (updF (hi 77) 27 ((b0 + 1 : Nat) : Int)) 8 (hi 77 8))) 80 (hi 80)) 84 (hi 84)) 94 (updF (hi 94) b0 (hi 77 8))) 81 (hi 81)) 82 (hi 82)) 83 (hi 83))) 8 8 flX8_138 dX8_passAll_9 (kS_77) (by decide) (by decide) rfl rfl (us (by decide) (us (by decide) (us (by decide) (us (by decide) (us (by decide) (us (by decide) u1)))))) ?_
  refine V.aload_n (pc := 12) 0 dX8_passAll_12 rfl ?_
  refine V.aload_n (pc := 13) 0 dX8_passAll_13 rfl ?_
  refine V.aload_n (pc := 14) 0 dX8_passAll_14 rfl ?_
  refine V.gi (pc := 15) 8 9 (hi 77 9) flX8_147 dX8_passAll_15 (kS_77) (by decide) (by decide) rfl (rfl) ?_
  refine V.callV (pc := 18) (e1 := eX8_pass) (o := 77) (c := 8) 1 [vI (hi 77 9)] [vR 77] mfX8_pass slX8_pass mlX8_282 dX8_passAll_18 (kS_77) (by decide) rfl rfl rfl (Nat.le_of_ble_eq_true rfl) ⟨by decide, by decide, by decide, by decide⟩ ?_
  refine c_X8_passW (upR (upR (upR (upR (upR (upR (upR hi 77 (updF (updF (hi 77) 27 ((b0 + 1 : Nat) : Int)) 8 (hi 77 8))) 80 (hi 80)) 84 (hi 84)) 94 (updF (hi 94) b0 (hi 77 8))) 81 (hi 81)) 82 (hi 82)) 83 (hi 83)) hl (b0 + 1) (by show (updF (updF (hi 77) 27 ((b0 + 1 : Nat) : Int)) 8 (hi 77 8)) 27 = _; rw [updF_n (by decide), updF_s] <;> omega) (by omega) (by show (updF (updF (hi 77) 27 ((b0 + 1 : Nat) : Int)) 8 (hi 77 8)) 28 = _; rw [updF_n (by decide), updF_n (by decide)]; exact h28) (hi 77 9) _ ?_
  refine V.qI (pc := 18) rfl rfl ?_
  refine V.hieq (hi' := (upR (upR (upR (upR (upR (upR (upR hi 77 (updF (updF (updF (hi 77) 27 ((b0 + 1 : Nat) : Int)) 8 (hi 77 8)) 27 (((b0 + 1) + 1 : Nat) : Int))) 80 (hi 80)) 84 (hi 84)) 94 (updF (updF (hi 94) b0 (hi 77 8)) (b0 + 1) (hi 77 9))) 81 (hi 81)) 82 (hi 82)) 83 (hi 83))) ((upR_c (rs (by decide) (rs (by decide) (rs (by decide) (rs (by decide) (rs (by decide) (rs (by decide) r1))))))).trans (rs (by decide) (rs (by decide) (rs (by decide) r1)))) ?_
  refine V.pi (pc := 21) (hi' := (upR (upR (upR (upR (upR (upR (upR hi 77 (updF (updF (updF (updF (hi 77) 27 ((b0 + 1 : Nat) : Int)) 8 (hi 77 8)) 27 (((b0 + 1) + 1 : Nat) : Int)) 9 (hi 77 9))) 80 (hi 80)) 84 (hi 84)) 94 (updF (updF (hi 94) b0 (hi 77 8)) (b0 + 1) (hi 77 9))) 81 (hi 81)) 82 (hi 82)) 83 (hi 83))) 8 9 flX8_147 dX8_passAll_21 (kS_77) (by decide) (by decide) rfl rfl (us (by decide) (us (by decide) (us (by decide) (us (by decide) (us (by decide) (us (by decide) u1)))))) ?_
  refine V.aload_n (pc := 24) 0 dX8_passAll_24 rfl ?_
  refine V.aload_n (pc := 25) 0 dX8_passAll_25 rfl ?_
  refine V.aload_n (pc := 26) 0 dX8_passAll_26 rfl ?_
  refine V.gi (pc := 27) 8 11 (hi 77 11) flX8_66 dX8_passAll_27 (kS_77) (by decide) (by decide) rfl (rfl) ?_
  refine V.callV (pc := 30) (e1 := eX8_pass) (o := 77) (c := 8) 1 [vI (hi 77 11)] [vR 77] mfX8_pass slX8_pass mlX8_282 dX8_passAll_30 (kS_77) (by decide) rfl rfl rfl (Nat.le_of_ble_eq_true rfl) ⟨by decide, by decide, by decide, by decide⟩ ?_
  refine c_X8_passW (upR (upR (upR (upR (upR (upR (upR hi 77 (updF (updF (updF (updF (hi 77) 27 ((b0 + 1 : Nat) : Int)) 8 (hi 77 8)) 27 (((b0 + 1) + 1 : Nat) : Int)) 9 (hi 77 9))) 80 (hi 80)) 84 (hi 84)) 94 (updF (updF (hi 94) b0 (hi 77 8)) (b0 + 1) (hi 77 9))) 81 (hi 81)) 82 (hi 82)) 83 (hi 83)) hl (b0 + 2) (by show (updF (updF (updF (updF (hi 77) 27 ((b0 + 1 : Nat) : Int)) 8 (hi 77 8)) 27 (((b0 + 1) + 1 : Nat) : Int)) 9 (hi 77 9)) 27 = _; rw [updF_n (by decide), updF_s] <;> omega) (by omega) (by show (updF (updF (updF (updF (hi 77) 27 ((b0 + 1 : Nat) : Int)) 8 (hi 77 8)) 27 (((b0 + 1) + 1 : Nat) : Int)) 9 (hi 77 9)) 28 = _; rw [updF_n (by decide), updF_n (by decide), updF_n (by decide), updF_n (by decide)]; exact h28) (hi 77 11) _ ?_
  refine V.qI (pc := 30) rfl rfl ?_
  refine V.hieq (hi' := (upR (upR (upR (upR (upR (upR (upR hi 77 (updF (updF (updF (updF (updF (hi 77) 27 ((b0 + 1 : Nat) : Int)) 8 (hi 77 8)) 27 (((b0 + 1) + 1 : Nat) : Int)) 9 (hi 77 9)) 27 (((b0 + 2) + 1 : Nat) : Int))) 80 (hi 80)) 84 (hi 84)) 94 (updF (updF (updF (hi 94) b0 (hi 77 8)) (b0 + 1) (hi 77 9)) (b0 + 2) (hi 77 11))) 81 (hi 81)) 82 (hi 82)) 83 (hi 83))) ((upR_c (rs (by decide) (rs (by decide) (rs (by decide) (rs (by decide) (rs (by decide) (rs (by decide) r1))))))).trans (rs (by decide) (rs (by decide) (rs (by decide) r1)))) ?_
  refine V.pi (pc := 33) (hi' := (upR (upR (upR (upR (upR (upR (upR hi 77 (updF (updF (updF (updF (updF (updF (hi 77) 27 ((b0 + 1 : Nat) : Int)) 8 (hi 77 8)) 27 (((b0 + 1) + 1 : Nat) : Int)) 9 (hi 77 9)) 27 (((b0 + 2) + 1 : Nat) : Int)) 11 (hi 77 11))) 80 (hi 80)) 84 (hi 84)) 94 (updF (updF (updF (hi 94) b0 (hi 77 8)) (b0 + 1) (hi 77 9)) (b0 + 2) (hi 77 11))) 81 (hi 81)) 82 (hi 82)) 83 (hi 83))) 8 11 flX8_66 dX8_passAll_33 (kS_77) (by decide) (by decide) rfl rfl (us (by decide) (us (by decide) (us (by decide) (us (by decide) (us (by decide) (us (by decide) u1)))))) ?_
  refine V.iconst (pc := 36) (z := 0) dX8_passAll_36 rfl ⟨by decide, by decide⟩ ?_
  refine V.istore_n (pc := 37) (i := 1) dX8_passAll_37 rfl (by decide) (ls' := [(1, vI 0), (0, vR 77)]) rfl ?_
  have lp38 : ∀ (fu38 : Nat) (b : Nat) (q77 : Nat → Int) (q80 : Nat → Int) (q84 : Nat → Int) (q94 : Nat → Int), (b ≤ 6) → (q77 27 = ((b0 + 3 + 2 * b : Nat) : Int)) → (∀ j, j ≠ 27 → q77 j = hi 77 j) → (q80 = hi 80) → (q84 = hi 84) → (K1 hi b0 q94 b) → 6 - b < fu38 → V eX8_passAll none KW 38 [(0, vR 77), (1, vI ((b : Nat) : Int))] [] (upR (upR (upR (upR (upR (upR (upR hi 77 q77) 80 q80) 84 q84) 94 q94) 81 (hi 81)) 82 (hi 82)) 83 (hi 83)) hl 0 0 Q := by
    intro fu38
    induction fu38 with
    | zero => intro b q77 q80 q84 q94 hb6 i27 io i80 i84 iK hm38; exact absurd hm38 (Nat.not_lt_zero _)
    | succ fu38 ih38 =>
      intro b q77 q80 q84 q94 hb6 i27 io i80 i84 iK hm38
      refine V.iload_n (pc := 38) 1 dX8_passAll_38 rfl ?_
      refine V.bipush (pc := 39) (z := 6) dX8_passAll_39 (by decide +kernel) ⟨by decide, by decide⟩ ?_
      refine V.icmp_ge (pc := 41) 82 dX8_passAll_41 (by decide) (fun h41 => ?_) (fun h41 => ?_)
      · skip
        refine V.iconst (pc := 82) (z := 0) dX8_passAll_82 rfl ⟨by decide, by decide⟩ ?_
        refine V.istore_n (pc := 83) (i := 1) dX8_passAll_83 rfl (by decide) (ls' := [(1, vI 0), (0, vR 77)]) rfl ?_
        have lp84 : ∀ (fu84 : Nat) (p : Nat) (q77 : Nat → Int) (q94 : Nat → Int) (q81 : Nat → Int) (q82 : Nat → Int) (q83 : Nat → Int), (p ≤ 16) → (q77 27 = ((b0 + 15 + 3 * p : Nat) : Int)) → (∀ j, j ≠ 27 → q77 j = hi 77 j) → (K2 hi b0 q94 p) → (q81 = hi 81) → (q82 = hi 82) → (q83 = hi 83) → 16 - p < fu84 → V eX8_passAll none KW 84 [(0, vR 77), (1, vI ((p : Nat) : Int))] [] (upR (upR (upR (upR (upR (upR (upR hi 77 q77) 80 q80) 84 q84) 94 q94) 81 q81) 82 q82) 83 q83) hl 0 0 Q := by
          intro fu84
          induction fu84 with
          | zero => intro p q77 q94 q81 q82 q83 hp16 i27 io iK i81 i82 i83 hm84; exact absurd hm84 (Nat.not_lt_zero _)
          | succ fu84 ih84 =>
            intro p q77 q94 q81 q82 q83 hp16 i27 io iK i81 i82 i83 hm84
            refine V.iload_n (pc := 84) 1 dX8_passAll_84 rfl ?_
            refine V.bipush (pc := 85) (z := 16) dX8_passAll_85 (by decide +kernel) ⟨by decide, by decide⟩ ?_
            refine V.icmp_ge (pc := 87) 144 dX8_passAll_87 (by decide) (fun h87 => ?_) (fun h87 => ?_)
            · skip
              refine V.vret (pc := 144) dX8_passAll_144 rfl ?_
              exact hq _ _ _ _ _ _ _ io i80 i84 i81 i82 i83 (by have e : p = 16 := (by omega); subst e; exact iK)
            · skip
              refine V.aload_n (pc := 90) 0 dX8_passAll_90 rfl ?_
              refine V.gr (pc := 91) 8 5 81 flX8_19 dX8_passAll_91 (kS_77) (by decide) (by decide) rfl (kR_77_5) ?_
              refine V.iload_n (pc := 94) 1 dX8_passAll_94 rfl ?_
              refine V.aload_n (pc := 95) 0 dX8_passAll_95 rfl ?_
              refine V.aload_n (pc := 96) 0 dX8_passAll_96 rfl ?_
              refine V.gr (pc := 97) 8 5 81 flX8_19 dX8_passAll_97 (kS_77) (by decide) (by decide) rfl (kR_77_5) ?_
              refine V.iload_n (pc := 100) 1 dX8_passAll_100 rfl ?_
              refine V.ia (pc := 101) (len := 16) p (q81 p) dX8_passAll_101 (kS_81) (rfl) (by omega) (rfl) ?_
              refine V.callV (pc := 102) (e1 := eX8_pass) (o := 77) (c := 8) 1 [vI (q81 p)] [vI ((p : Nat) : Int), vR 81] mfX8_pass slX8_pass mlX8_282 dX8_passAll_102 (kS_77) (by decide) rfl rfl rfl (Nat.le_of_ble_eq_true rfl) ⟨by decide, by decide, by decide, by decide⟩ ?_
              refine c_X8_passW (upR (upR (upR (upR (upR (upR (upR hi 77 q77) 80 q80) 84 q84) 94 q94) 81 q81) 82 q82) 83 q83) hl (b0 + 15 + 3 * p) (i27) (by omega) (((io 28 (by decide)).trans h28)) (q81 p) _ ?_
              refine V.qI (pc := 102) rfl rfl ?_
              refine V.hieq (hi' := (upR (upR (upR (upR (upR (upR (upR hi 77 (updF q77 27 (((b0 + 15 + 3 * p) + 1 : Nat) : Int))) 80 q80) 84 q84) 94 (updF q94 (b0 + 15 + 3 * p) (q81 p))) 81 q81) 82 q82) 83 q83)) ((upR_c (rs (by decide) (rs (by decide) (rs (by decide) (rs (by decide) (rs (by decide) (rs (by decide) r1))))))).trans (rs (by decide) (rs (by decide) (rs (by decide) r1)))) ?_
              refine V.is (pc := 105) (len := 16) (hi' := (upR (upR (upR (upR (upR (upR (upR hi 77 (updF q77 27 (((b0 + 15 + 3 * p) + 1 : Nat) : Int))) 80 q80) 84 q84) 94 (updF q94 (b0 + 15 + 3 * p) (q81 p))) 81 (updF q81 p (q81 p))) 82 q82) 83 q83)) p dX8_passAll_105 (kS_81) (rfl) (by omega) (us (by decide) (us (by decide) u1)) ?_
              refine V.aload_n (pc := 106) 0 dX8_passAll_106 rfl ?_
              refine V.gr (pc := 107) 8 6 82 flX8_22 dX8_passAll_107 (kS_77) (by decide) (by decide) rfl (kR_77_6) ?_
              refine V.iload_n (pc := 110) 1 dX8_passAll_110 rfl ?_
              refine V.aload_n (pc := 111) 0 dX8_passAll_111 rfl ?_
              refine V.aload_n (pc := 112) 0 dX8_passAll_112 rfl ?_
              refine V.gr (pc := 113) 8 6 82 flX8_22 dX8_passAll_113 (kS_77) (by decide) (by decide) rfl (kR_77_6) ?_
              refine V.iload_n (pc := 116) 1 dX8_passAll_116 rfl ?_
              refine V.ia (pc := 117) (len := 16) p (q82 p) dX8_passAll_117 (kS_82) (rfl) (by omega) (rfl) ?_
              refine V.callV (pc := 118) (e1 := eX8_pass) (o := 77) (c := 8) 1 [vI (q82 p)] [vI ((p : Nat) : Int), vR 82] mfX8_pass slX8_pass mlX8_282 dX8_passAll_118 (kS_77) (by decide) rfl rfl rfl (Nat.le_of_ble_eq_true rfl) ⟨by decide, by decide, by decide, by decide⟩ ?_
              refine c_X8_passW (upR (upR (upR (upR (upR (upR (upR hi 77 (updF q77 27 (((b0 + 15 + 3 * p) + 1 : Nat) : Int))) 80 q80) 84 q84) 94 (updF q94 (b0 + 15 + 3 * p) (q81 p))) 81 (updF q81 p (q81 p))) 82 q82) 83 q83) hl (b0 + 16 + 3 * p) (by show (updF q77 27 (((b0 + 15 + 3 * p) + 1 : Nat) : Int)) 27 = _; rw [updF_s] <;> omega) (by omega) (by show (updF q77 27 (((b0 + 15 + 3 * p) + 1 : Nat) : Int)) 28 = _; rw [updF_n (by decide)]; exact ((io 28 (by decide)).trans h28)) (q82 p) _ ?_
              refine V.qI (pc := 118) rfl rfl ?_
              refine V.hieq (hi' := (upR (upR (upR (upR (upR (upR (upR hi 77 (updF (updF q77 27 (((b0 + 15 + 3 * p) + 1 : Nat) : Int)) 27 (((b0 + 16 + 3 * p) + 1 : Nat) : Int))) 80 q80) 84 q84) 94 (updF (updF q94 (b0 + 15 + 3 * p) (q81 p)) (b0 + 16 + 3 * p) (q82 p))) 81 (updF q81 p (q81 p))) 82 q82) 83 q83)) ((upR_c (rs (by decide) (rs (by decide) (rs (by decide) (rs (by decide) (rs (by decide) (rs (by decide) r1))))))).trans (rs (by decide) (rs (by decide) (rs (by decide) r1)))) ?_
              refine V.is (pc := 121) (len := 16) (hi' := (upR (upR (upR (upR (upR (upR (upR hi 77 (updF (updF q77 27 (((b0 + 15 + 3 * p) + 1 : Nat) : Int)) 27 (((b0 + 16 + 3 * p) + 1 : Nat) : Int))) 80 q80) 84 q84) 94 (updF (updF q94 (b0 + 15 + 3 * p) (q81 p)) (b0 + 16 + 3 * p) (q82 p))) 81 (updF q81 p (q81 p))) 82 (updF q82 p (q82 p))) 83 q83)) p dX8_passAll_121 (kS_82) (rfl) (by omega) (us (by decide) u1) ?_
              refine V.aload_n (pc := 122) 0 dX8_passAll_122 rfl ?_
              refine V.gr (pc := 123) 8 7 83 flX8_25 dX8_passAll_123 (kS_77) (by decide) (by decide) rfl (kR_77_7) ?_
              refine V.iload_n (pc := 126) 1 dX8_passAll_126 rfl ?_
              refine V.aload_n (pc := 127) 0 dX8_passAll_127 rfl ?_
              refine V.aload_n (pc := 128) 0 dX8_passAll_128 rfl ?_
              refine V.gr (pc := 129) 8 7 83 flX8_25 dX8_passAll_129 (kS_77) (by decide) (by decide) rfl (kR_77_7) ?_
              refine V.iload_n (pc := 132) 1 dX8_passAll_132 rfl ?_
              refine V.ia (pc := 133) (len := 16) p (q83 p) dX8_passAll_133 (kS_83) (rfl) (by omega) (rfl) ?_
              refine V.callV (pc := 134) (e1 := eX8_pass) (o := 77) (c := 8) 1 [vI (q83 p)] [vI ((p : Nat) : Int), vR 83] mfX8_pass slX8_pass mlX8_282 dX8_passAll_134 (kS_77) (by decide) rfl rfl rfl (Nat.le_of_ble_eq_true rfl) ⟨by decide, by decide, by decide, by decide⟩ ?_
              refine c_X8_passW (upR (upR (upR (upR (upR (upR (upR hi 77 (updF (updF q77 27 (((b0 + 15 + 3 * p) + 1 : Nat) : Int)) 27 (((b0 + 16 + 3 * p) + 1 : Nat) : Int))) 80 q80) 84 q84) 94 (updF (updF q94 (b0 + 15 + 3 * p) (q81 p)) (b0 + 16 + 3 * p) (q82 p))) 81 (updF q81 p (q81 p))) 82 (updF q82 p (q82 p))) 83 q83) hl (b0 + 17 + 3 * p) (by show (updF (updF q77 27 (((b0 + 15 + 3 * p) + 1 : Nat) : Int)) 27 (((b0 + 16 + 3 * p) + 1 : Nat) : Int)) 27 = _; rw [updF_s] <;> omega) (by omega) (by show (updF (updF q77 27 (((b0 + 15 + 3 * p) + 1 : Nat) : Int)) 27 (((b0 + 16 + 3 * p) + 1 : Nat) : Int)) 28 = _; rw [updF_n (by decide), updF_n (by decide)]; exact ((io 28 (by decide)).trans h28)) (q83 p) _ ?_
              refine V.qI (pc := 134) rfl rfl ?_
              refine V.hieq (hi' := (upR (upR (upR (upR (upR (upR (upR hi 77 (updF (updF (updF q77 27 (((b0 + 15 + 3 * p) + 1 : Nat) : Int)) 27 (((b0 + 16 + 3 * p) + 1 : Nat) : Int)) 27 (((b0 + 17 + 3 * p) + 1 : Nat) : Int))) 80 q80) 84 q84) 94 (updF (updF (updF q94 (b0 + 15 + 3 * p) (q81 p)) (b0 + 16 + 3 * p) (q82 p)) (b0 + 17 + 3 * p) (q83 p))) 81 (updF q81 p (q81 p))) 82 (updF q82 p (q82 p))) 83 q83)) ((upR_c (rs (by decide) (rs (by decide) (rs (by decide) (rs (by decide) (rs (by decide) (rs (by decide) r1))))))).trans (rs (by decide) (rs (by decide) (rs (by decide) r1)))) ?_
              refine V.is (pc := 137) (len := 16) (hi' := (upR (upR (upR (upR (upR (upR (upR hi 77 (updF (updF (updF q77 27 (((b0 + 15 + 3 * p) + 1 : Nat) : Int)) 27 (((b0 + 16 + 3 * p) + 1 : Nat) : Int)) 27 (((b0 + 17 + 3 * p) + 1 : Nat) : Int))) 80 q80) 84 q84) 94 (updF (updF (updF q94 (b0 + 15 + 3 * p) (q81 p)) (b0 + 16 + 3 * p) (q82 p)) (b0 + 17 + 3 * p) (q83 p))) 81 (updF q81 p (q81 p))) 82 (updF q82 p (q82 p))) 83 (updF q83 p (q83 p)))) p dX8_passAll_137 (kS_83) (rfl) (by omega) u1 ?_
              refine V.iinc (pc := 138) (r := ((p + 1 : Nat) : Int)) 1 dX8_passAll_138 rfl (w32_of (by omega) (by omega) (by omega)) (by decide) (ls' := [(1, vI ((p + 1 : Nat) : Int)), (0, vR 77)]) rfl ?_
              refine V.goto (pc := 141) 84 dX8_passAll_141 (by decide) ?_
              refine V.locs [1, 0] (ls' := [(0, vR 77), (1, vI ((p + 1 : Nat) : Int))]) rfl ?_
              exact ih84 (p + 1) (updF (updF (updF q77 27 (((b0 + 15 + 3 * p) + 1 : Nat) : Int)) 27 (((b0 + 16 + 3 * p) + 1 : Nat) : Int)) 27 (((b0 + 17 + 3 * p) + 1 : Nat) : Int)) (updF (updF (updF q94 (b0 + 15 + 3 * p) (q81 p)) (b0 + 16 + 3 * p) (q82 p)) (b0 + 17 + 3 * p) (q83 p)) (updF q81 p (q81 p)) (updF q82 p (q82 p)) (updF q83 p (q83 p)) (by omega) (by rw [updF_s]; omega) (fun j hj => by rw [updF_n hj, updF_n hj, updF_n hj]; exact io j hj) (K2_step iK (by omega) (by rw [i81]) (by rw [i82]) (by rw [i83])) (by rw [i81]; exact updF_id rfl) (by rw [i82]; exact updF_id rfl) (by rw [i83]; exact updF_id rfl) (by omega)
        refine V.locs [1, 0] (ls' := [(0, vR 77), (1, vI 0)]) rfl ?_
        exact lp84 _ 0 q77 q94 (hi 81) (hi 82) (hi 83) (by omega) (by omega) (io) (⟨by have e : b = 6 := (by omega); subst e; exact iK, fun q hq => absurd hq (Nat.not_lt_zero q)⟩) (rfl) (rfl) (rfl) (Nat.lt_succ_self _)
      · skip
        refine V.aload_n (pc := 44) 0 dX8_passAll_44 rfl ?_
        refine V.gr (pc := 45) 8 4 80 flX8_16 dX8_passAll_45 (kS_77) (by decide) (by decide) rfl (kR_77_4) ?_
        refine V.iload_n (pc := 48) 1 dX8_passAll_48 rfl ?_
        refine V.aload_n (pc := 49) 0 dX8_passAll_49 rfl ?_
        refine V.aload_n (pc := 50) 0 dX8_passAll_50 rfl ?_
        refine V.gr (pc := 51) 8 4 80 flX8_16 dX8_passAll_51 (kS_77) (by decide) (by decide) rfl (kR_77_4) ?_
        refine V.iload_n (pc := 54) 1 dX8_passAll_54 rfl ?_
        refine V.ia (pc := 55) (len := 6) b (q80 b) dX8_passAll_55 (kS_80) (rfl) (by omega) (rfl) ?_
        refine V.callV (pc := 56) (e1 := eX8_pass) (o := 77) (c := 8) 1 [vI (q80 b)] [vI ((b : Nat) : Int), vR 80] mfX8_pass slX8_pass mlX8_282 dX8_passAll_56 (kS_77) (by decide) rfl rfl rfl (Nat.le_of_ble_eq_true rfl) ⟨by decide, by decide, by decide, by decide⟩ ?_
        refine c_X8_passW (upR (upR (upR (upR (upR (upR (upR hi 77 q77) 80 q80) 84 q84) 94 q94) 81 (hi 81)) 82 (hi 82)) 83 (hi 83)) hl (b0 + 3 + 2 * b) (i27) (by omega) (((io 28 (by decide)).trans h28)) (q80 b) _ ?_
        refine V.qI (pc := 56) rfl rfl ?_
        refine V.hieq (hi' := (upR (upR (upR (upR (upR (upR (upR hi 77 (updF q77 27 (((b0 + 3 + 2 * b) + 1 : Nat) : Int))) 80 q80) 84 q84) 94 (updF q94 (b0 + 3 + 2 * b) (q80 b))) 81 (hi 81)) 82 (hi 82)) 83 (hi 83))) ((upR_c (rs (by decide) (rs (by decide) (rs (by decide) (rs (by decide) (rs (by decide) (rs (by decide) r1))))))).trans (rs (by decide) (rs (by decide) (rs (by decide) r1)))) ?_
        refine V.is (pc := 59) (len := 6) (hi' := (upR (upR (upR (upR (upR (upR (upR hi 77 (updF q77 27 (((b0 + 3 + 2 * b) + 1 : Nat) : Int))) 80 (updF q80 b (q80 b))) 84 q84) 94 (updF q94 (b0 + 3 + 2 * b) (q80 b))) 81 (hi 81)) 82 (hi 82)) 83 (hi 83))) b dX8_passAll_59 (kS_80) (rfl) (by omega) (us (by decide) (us (by decide) (us (by decide) (us (by decide) (us (by decide) u1))))) ?_
        refine V.aload_n (pc := 60) 0 dX8_passAll_60 rfl ?_
        refine V.gr (pc := 61) 8 10 84 flX8_28 dX8_passAll_61 (kS_77) (by decide) (by decide) rfl (kR_77_10) ?_
        refine V.iload_n (pc := 64) 1 dX8_passAll_64 rfl ?_
        refine V.aload_n (pc := 65) 0 dX8_passAll_65 rfl ?_
        refine V.aload_n (pc := 66) 0 dX8_passAll_66 rfl ?_
        refine V.gr (pc := 67) 8 10 84 flX8_28 dX8_passAll_67 (kS_77) (by decide) (by decide) rfl (kR_77_10) ?_
        refine V.iload_n (pc := 70) 1 dX8_passAll_70 rfl ?_
        refine V.ia (pc := 71) (len := 6) b (q84 b) dX8_passAll_71 (kS_84) (rfl) (by omega) (rfl) ?_
        refine V.callV (pc := 72) (e1 := eX8_pass) (o := 77) (c := 8) 1 [vI (q84 b)] [vI ((b : Nat) : Int), vR 84] mfX8_pass slX8_pass mlX8_282 dX8_passAll_72 (kS_77) (by decide) rfl rfl rfl (Nat.le_of_ble_eq_true rfl) ⟨by decide, by decide, by decide, by decide⟩ ?_
        refine c_X8_passW (upR (upR (upR (upR (upR (upR (upR hi 77 (updF q77 27 (((b0 + 3 + 2 * b) + 1 : Nat) : Int))) 80 (updF q80 b (q80 b))) 84 q84) 94 (updF q94 (b0 + 3 + 2 * b) (q80 b))) 81 (hi 81)) 82 (hi 82)) 83 (hi 83)) hl (b0 + 4 + 2 * b) (by show (updF q77 27 (((b0 + 3 + 2 * b) + 1 : Nat) : Int)) 27 = _; rw [updF_s] <;> omega) (by omega) (by show (updF q77 27 (((b0 + 3 + 2 * b) + 1 : Nat) : Int)) 28 = _; rw [updF_n (by decide)]; exact ((io 28 (by decide)).trans h28)) (q84 b) _ ?_
        refine V.qI (pc := 72) rfl rfl ?_
        refine V.hieq (hi' := (upR (upR (upR (upR (upR (upR (upR hi 77 (updF (updF q77 27 (((b0 + 3 + 2 * b) + 1 : Nat) : Int)) 27 (((b0 + 4 + 2 * b) + 1 : Nat) : Int))) 80 (updF q80 b (q80 b))) 84 q84) 94 (updF (updF q94 (b0 + 3 + 2 * b) (q80 b)) (b0 + 4 + 2 * b) (q84 b))) 81 (hi 81)) 82 (hi 82)) 83 (hi 83))) ((upR_c (rs (by decide) (rs (by decide) (rs (by decide) (rs (by decide) (rs (by decide) (rs (by decide) r1))))))).trans (rs (by decide) (rs (by decide) (rs (by decide) r1)))) ?_
        refine V.is (pc := 75) (len := 6) (hi' := (upR (upR (upR (upR (upR (upR (upR hi 77 (updF (updF q77 27 (((b0 + 3 + 2 * b) + 1 : Nat) : Int)) 27 (((b0 + 4 + 2 * b) + 1 : Nat) : Int))) 80 (updF q80 b (q80 b))) 84 (updF q84 b (q84 b))) 94 (updF (updF q94 (b0 + 3 + 2 * b) (q80 b)) (b0 + 4 + 2 * b) (q84 b))) 81 (hi 81)) 82 (hi 82)) 83 (hi 83))) b dX8_passAll_75 (kS_84) (rfl) (by omega) (us (by decide) (us (by decide) (us (by decide) (us (by decide) u1)))) ?_
        refine V.iinc (pc := 76) (r := ((b + 1 : Nat) : Int)) 1 dX8_passAll_76 rfl (w32_of (by omega) (by omega) (by omega)) (by decide) (ls' := [(1, vI ((b + 1 : Nat) : Int)), (0, vR 77)]) rfl ?_
        refine V.goto (pc := 79) 38 dX8_passAll_79 (by decide) ?_
        refine V.locs [1, 0] (ls' := [(0, vR 77), (1, vI ((b + 1 : Nat) : Int))]) rfl ?_
        exact ih38 (b + 1) (updF (updF q77 27 (((b0 + 3 + 2 * b) + 1 : Nat) : Int)) 27 (((b0 + 4 + 2 * b) + 1 : Nat) : Int)) (updF q80 b (q80 b)) (updF q84 b (q84 b)) (updF (updF q94 (b0 + 3 + 2 * b) (q80 b)) (b0 + 4 + 2 * b) (q84 b)) (by omega) (by rw [updF_s]; omega) (fun j hj => by rw [updF_n hj, updF_n hj]; exact io j hj) (by rw [i80]; exact updF_id rfl) (by rw [i84]; exact updF_id rfl) (K1_step iK (by omega) (by rw [i80]) (by rw [i84])) (by omega)
  refine V.locs [1, 0] (ls' := [(0, vR 77), (1, vI 0)]) rfl ?_
  exact lp38 _ 0 (updF (updF (updF (updF (updF (updF (hi 77) 27 ((b0 + 1 : Nat) : Int)) 8 (hi 77 8)) 27 (((b0 + 1) + 1 : Nat) : Int)) 9 (hi 77 9)) 27 (((b0 + 2) + 1 : Nat) : Int)) 11 (hi 77 11)) (hi 80) (hi 84) (updF (updF (updF (hi 94) b0 (hi 77 8)) (b0 + 1) (hi 77 9)) (b0 + 2) (hi 77 11)) (by omega) (by rw [updF_n (by decide), updF_s]) (pass3) (rfl) (rfl) (K1_0) (Nat.lt_succ_self _)

set_option maxRecDepth 100000 in
theorem c_X8_passAllR (hi hl : HI) (b0 : Nat) (hb0 : b0 ≤ 80) (hk0 : hi 77 27 = (b0 : Nat)) (h28 : hi 77 28 = 0) (Q : QT) (hq : ∀ f77 f80 f84 f94 f81 f82 f83 : Nat → Int, (f77 8 = hi 94 b0 ∧ f77 9 = hi 94 (b0 + 1) ∧ f77 11 = hi 94 (b0 + 2)) → (∀ j, j ≠ 8 → j ≠ 9 → j ≠ 11 → j ≠ 27 → f77 j = hi 77 j) → f94 = hi 94 → (∀ c, c < 6 → f80 c = hi 94 (b0 + 3 + 2 * c) ∧ f84 c = hi 94 (b0 + 4 + 2 * c)) → (∀ q, q < 16 → f81 q = hi 94 (b0 + 15 + 3 * q) ∧ f82 q = hi 94 (b0 + 16 + 3 * q) ∧ f83 q = hi 94 (b0 + 17 + 3 * q)) → Q none KW (upR (upR (upR (upR (upR (upR (upR hi 77 f77) 80 f80) 84 f84) 94 f94) 81 f81) 82 f82) 83 f83) hl) : Con eX8_passAll [vR 77] KW hi hl Q := by
  refine Con.ofV (by decide +kernel) (Nat.le_of_ble_eq_true rfl) ?_
  show V eX8_passAll none KW 0 [(0, vR 77)] [] hi hl 0 0 Q
  refine V.hieq (hi' := (upR (upR (upR (upR (upR (upR (upR hi 77 (hi 77)) 80 (hi 80)) 84 (hi 84)) 94 (hi 94)) 81 (hi 81)) 82 (hi 82)) 83 (hi 83))) (by rw [upR_id, upR_id, upR_id, upR_id, upR_id, upR_id, upR_id]) ?_
  refine V.aload_n (pc := 0) 0 dX8_passAll_0 rfl ?_
  refine V.aload_n (pc := 1) 0 dX8_passAll_1 rfl ?_
  refine V.aload_n (pc := 2) 0 dX8_passAll_2 rfl ?_
  refine V.gi (pc := 3) 8 8 (hi 77 8) flX8_138 dX8_passAll_3 (kS_77) (by decide) (by decide) rfl (rfl) ?_
  refine V.callV (pc := 6) (e1 := eX8_pass) (o := 77) (c := 8) 1 [vI (hi 77 8)] [vR 77] mfX8_pass slX8_pass mlX8_282 dX8_passAll_6 (kS_77) (by decide) rfl rfl rfl (Nat.le_of_ble_eq_true rfl) ⟨by decide, by decide, by decide, by decide⟩ ?_
  refine c_X8_passR (upR (upR (upR (upR (upR (upR (upR hi 77 (hi 77)) 80 (hi 80)) 84 (hi 84)) 94 (hi 94)) 81 (hi 81)) 82 (hi 82)) 83 (hi 83)) hl b0 (hk0) (by omega) (h28) (hi 77 8) _ ?_
  refine V.qI (pc := 6) rfl rfl ?_
  refine V.hieq (hi' := (upR (upR (upR (upR (upR (upR (upR hi 77 (updF (hi 77) 27 ((b0 + 1 : Nat) : Int))) 80 (hi 80)) 84 (hi 84)) 94 (updF (hi 94) b0 ((hi 94) b0))) 81 (hi 81)) 82 (hi 82)) 83 (hi 83))) ((upR_c (rs (by decide) (rs (by decide) (rs (by decide) (rs (by decide) (rs (by decide) (rs (by decide) r1))))))).trans (rs (by decide) (rs (by decide) (rs (by decide) r1)))) ?_
  refine V.pi (pc := 9) (hi' := (upR (upR (upR (upR (upR (upR (upR hi 77 (updF (updF (hi 77) 27 ((b0 + 1 : Nat) : Int)) 8 ((hi 94) b0))) 80 (hi 80)) 84 (hi 84)) 94 (updF (hi 94) b0 ((hi 94) b0))) 81 (hi 81)) 82 (hi 82)) 83 (hi 83))) 8 8 flX8_138 dX8_passAll_9 (kS_77) (by decide) (by decide) rfl rfl (us (by decide) (us (by decide) (us (by decide) (us (by decide) (us (by decide) (us (by decide) u1)))))) ?_
  refine V.aload_n (pc := 12) 0 dX8_passAll_12 rfl ?_
  refine V.aload_n (pc := 13) 0 dX8_passAll_13 rfl ?_
  refine V.aload_n (pc := 14) 0 dX8_passAll_14 rfl ?_
  refine V.gi (pc := 15) 8 9 (hi 77 9) flX8_147 dX8_passAll_15 (kS_77) (by decide) (by decide) rfl (rfl) ?_
  refine V.callV (pc := 18) (e1 := eX8_pass) (o := 77) (c := 8) 1 [vI (hi 77 9)] [vR 77] mfX8_pass slX8_pass mlX8_282 dX8_passAll_18 (kS_77) (by decide) rfl rfl rfl (Nat.le_of_ble_eq_true rfl) ⟨by decide, by decide, by decide, by decide⟩ ?_
  refine c_X8_passR (upR (upR (upR (upR (upR (upR (upR hi 77 (updF (updF (hi 77) 27 ((b0 + 1 : Nat) : Int)) 8 ((hi 94) b0))) 80 (hi 80)) 84 (hi 84)) 94 (updF (hi 94) b0 ((hi 94) b0))) 81 (hi 81)) 82 (hi 82)) 83 (hi 83)) hl (b0 + 1) (by show (updF (updF (hi 77) 27 ((b0 + 1 : Nat) : Int)) 8 ((hi 94) b0)) 27 = _; rw [updF_n (by decide), updF_s] <;> omega) (by omega) (by show (updF (updF (hi 77) 27 ((b0 + 1 : Nat) : Int)) 8 ((hi 94) b0)) 28 = _; rw [updF_n (by decide), updF_n (by decide)]; exact h28) (hi 77 9) _ ?_
  refine V.qI (pc := 18) rfl rfl ?_
  refine V.hieq (hi' := (upR (upR (upR (upR (upR (upR (upR hi 77 (updF (updF (updF (hi 77) 27 ((b0 + 1 : Nat) : Int)) 8 ((hi 94) b0)) 27 (((b0 + 1) + 1 : Nat) : Int))) 80 (hi 80)) 84 (hi 84)) 94 (updF (updF (hi 94) b0 ((hi 94) b0)) (b0 + 1) ((updF (hi 94) b0 ((hi 94) b0)) (b0 + 1)))) 81 (hi 81)) 82 (hi 82)) 83 (hi 83))) ((upR_c (rs (by decide) (rs (by decide) (rs (by decide) (rs (by decide) (rs (by decide) (rs (by decide) r1))))))).trans (rs (by decide) (rs (by decide) (rs (by decide) r1)))) ?_
  refine V.pi (pc := 21) (hi' := (upR (upR (upR (upR (upR (upR (upR hi 77 (updF (updF (updF (updF (hi 77) 27 ((b0 + 1 : Nat) : Int)) 8 ((hi 94) b0)) 27 (((b0 + 1) + 1 : Nat) : Int)) 9 ((updF (hi 94) b0 ((hi 94) b0)) (b0 + 1)))) 80 (hi 80)) 84 (hi 84)) 94 (updF (updF (hi 94) b0 ((hi 94) b0)) (b0 + 1) ((updF (hi 94) b0 ((hi 94) b0)) (b0 + 1)))) 81 (hi 81)) 82 (hi 82)) 83 (hi 83))) 8 9 flX8_147 dX8_passAll_21 (kS_77) (by decide) (by decide) rfl rfl (us (by decide) (us (by decide) (us (by decide) (us (by decide) (us (by decide) (us (by decide) u1)))))) ?_
  refine V.aload_n (pc := 24) 0 dX8_passAll_24 rfl ?_
  refine V.aload_n (pc := 25) 0 dX8_passAll_25 rfl ?_
  refine V.aload_n (pc := 26) 0 dX8_passAll_26 rfl ?_
  refine V.gi (pc := 27) 8 11 (hi 77 11) flX8_66 dX8_passAll_27 (kS_77) (by decide) (by decide) rfl (rfl) ?_
  refine V.callV (pc := 30) (e1 := eX8_pass) (o := 77) (c := 8) 1 [vI (hi 77 11)] [vR 77] mfX8_pass slX8_pass mlX8_282 dX8_passAll_30 (kS_77) (by decide) rfl rfl rfl (Nat.le_of_ble_eq_true rfl) ⟨by decide, by decide, by decide, by decide⟩ ?_
  refine c_X8_passR (upR (upR (upR (upR (upR (upR (upR hi 77 (updF (updF (updF (updF (hi 77) 27 ((b0 + 1 : Nat) : Int)) 8 ((hi 94) b0)) 27 (((b0 + 1) + 1 : Nat) : Int)) 9 ((updF (hi 94) b0 ((hi 94) b0)) (b0 + 1)))) 80 (hi 80)) 84 (hi 84)) 94 (updF (updF (hi 94) b0 ((hi 94) b0)) (b0 + 1) ((updF (hi 94) b0 ((hi 94) b0)) (b0 + 1)))) 81 (hi 81)) 82 (hi 82)) 83 (hi 83)) hl (b0 + 2) (by show (updF (updF (updF (updF (hi 77) 27 ((b0 + 1 : Nat) : Int)) 8 ((hi 94) b0)) 27 (((b0 + 1) + 1 : Nat) : Int)) 9 ((updF (hi 94) b0 ((hi 94) b0)) (b0 + 1))) 27 = _; rw [updF_n (by decide), updF_s] <;> omega) (by omega) (by show (updF (updF (updF (updF (hi 77) 27 ((b0 + 1 : Nat) : Int)) 8 ((hi 94) b0)) 27 (((b0 + 1) + 1 : Nat) : Int)) 9 ((updF (hi 94) b0 ((hi 94) b0)) (b0 + 1))) 28 = _; rw [updF_n (by decide), updF_n (by decide), updF_n (by decide), updF_n (by decide)]; exact h28) (hi 77 11) _ ?_
  refine V.qI (pc := 30) rfl rfl ?_
  refine V.hieq (hi' := (upR (upR (upR (upR (upR (upR (upR hi 77 (updF (updF (updF (updF (updF (hi 77) 27 ((b0 + 1 : Nat) : Int)) 8 ((hi 94) b0)) 27 (((b0 + 1) + 1 : Nat) : Int)) 9 ((updF (hi 94) b0 ((hi 94) b0)) (b0 + 1))) 27 (((b0 + 2) + 1 : Nat) : Int))) 80 (hi 80)) 84 (hi 84)) 94 (updF (updF (updF (hi 94) b0 ((hi 94) b0)) (b0 + 1) ((updF (hi 94) b0 ((hi 94) b0)) (b0 + 1))) (b0 + 2) ((updF (updF (hi 94) b0 ((hi 94) b0)) (b0 + 1) ((updF (hi 94) b0 ((hi 94) b0)) (b0 + 1))) (b0 + 2)))) 81 (hi 81)) 82 (hi 82)) 83 (hi 83))) ((upR_c (rs (by decide) (rs (by decide) (rs (by decide) (rs (by decide) (rs (by decide) (rs (by decide) r1))))))).trans (rs (by decide) (rs (by decide) (rs (by decide) r1)))) ?_
  refine V.pi (pc := 33) (hi' := (upR (upR (upR (upR (upR (upR (upR hi 77 (updF (updF (updF (updF (updF (updF (hi 77) 27 ((b0 + 1 : Nat) : Int)) 8 ((hi 94) b0)) 27 (((b0 + 1) + 1 : Nat) : Int)) 9 ((updF (hi 94) b0 ((hi 94) b0)) (b0 + 1))) 27 (((b0 + 2) + 1 : Nat) : Int)) 11 ((updF (updF (hi 94) b0 ((hi 94) b0)) (b0 + 1) ((updF (hi 94) b0 ((hi 94) b0)) (b0 + 1))) (b0 + 2)))) 80 (hi 80)) 84 (hi 84)) 94 (updF (updF (updF (hi 94) b0 ((hi 94) b0)) (b0 + 1) ((updF (hi 94) b0 ((hi 94) b0)) (b0 + 1))) (b0 + 2) ((updF (updF (hi 94) b0 ((hi 94) b0)) (b0 + 1) ((updF (hi 94) b0 ((hi 94) b0)) (b0 + 1))) (b0 + 2)))) 81 (hi 81)) 82 (hi 82)) 83 (hi 83))) 8 11 flX8_66 dX8_passAll_33 (kS_77) (by decide) (by decide) rfl rfl (us (by decide) (us (by decide) (us (by decide) (us (by decide) (us (by decide) (us (by decide) u1)))))) ?_
  refine V.iconst (pc := 36) (z := 0) dX8_passAll_36 rfl ⟨by decide, by decide⟩ ?_
  refine V.istore_n (pc := 37) (i := 1) dX8_passAll_37 rfl (by decide) (ls' := [(1, vI 0), (0, vR 77)]) rfl ?_
  have lp38 : ∀ (fu38 : Nat) (b : Nat) (q77 : Nat → Int) (q80 : Nat → Int) (q84 : Nat → Int) (q94 : Nat → Int), (b ≤ 6) → (q77 27 = ((b0 + 3 + 2 * b : Nat) : Int)) → (q77 8 = hi 94 b0 ∧ q77 9 = hi 94 (b0 + 1) ∧ q77 11 = hi 94 (b0 + 2)) → (∀ j, j ≠ 8 → j ≠ 9 → j ≠ 11 → j ≠ 27 → q77 j = hi 77 j) → (q94 = hi 94) → (∀ c, c < b → q80 c = hi 94 (b0 + 3 + 2 * c) ∧ q84 c = hi 94 (b0 + 4 + 2 * c)) → 6 - b < fu38 → V eX8_passAll none KW 38 [(0, vR 77), (1, vI ((b : Nat) : Int))] [] (upR (upR (upR (upR (upR (upR (upR hi 77 q77) 80 q80) 84 q84) 94 q94) 81 (hi 81)) 82 (hi 82)) 83 (hi 83)) hl 0 0 Q := by
    intro fu38
    induction fu38 with
    | zero => intro b q77 q80 q84 q94 hb6 i27 i8 io i94 iB hm38; exact absurd hm38 (Nat.not_lt_zero _)
    | succ fu38 ih38 =>
      intro b q77 q80 q84 q94 hb6 i27 i8 io i94 iB hm38
      refine V.iload_n (pc := 38) 1 dX8_passAll_38 rfl ?_
      refine V.bipush (pc := 39) (z := 6) dX8_passAll_39 (by decide +kernel) ⟨by decide, by decide⟩ ?_
      refine V.icmp_ge (pc := 41) 82 dX8_passAll_41 (by decide) (fun h41 => ?_) (fun h41 => ?_)
      · skip
        refine V.iconst (pc := 82) (z := 0) dX8_passAll_82 rfl ⟨by decide, by decide⟩ ?_
        refine V.istore_n (pc := 83) (i := 1) dX8_passAll_83 rfl (by decide) (ls' := [(1, vI 0), (0, vR 77)]) rfl ?_
        have lp84 : ∀ (fu84 : Nat) (p : Nat) (q77 : Nat → Int) (q94 : Nat → Int) (q81 : Nat → Int) (q82 : Nat → Int) (q83 : Nat → Int), (p ≤ 16) → (q77 27 = ((b0 + 15 + 3 * p : Nat) : Int)) → (q77 8 = hi 94 b0 ∧ q77 9 = hi 94 (b0 + 1) ∧ q77 11 = hi 94 (b0 + 2)) → (∀ j, j ≠ 8 → j ≠ 9 → j ≠ 11 → j ≠ 27 → q77 j = hi 77 j) → (q94 = hi 94) → (∀ q, q < p → q81 q = hi 94 (b0 + 15 + 3 * q) ∧ q82 q = hi 94 (b0 + 16 + 3 * q) ∧ q83 q = hi 94 (b0 + 17 + 3 * q)) → 16 - p < fu84 → V eX8_passAll none KW 84 [(0, vR 77), (1, vI ((p : Nat) : Int))] [] (upR (upR (upR (upR (upR (upR (upR hi 77 q77) 80 q80) 84 q84) 94 q94) 81 q81) 82 q82) 83 q83) hl 0 0 Q := by
          intro fu84
          induction fu84 with
          | zero => intro p q77 q94 q81 q82 q83 hp16 i27 i8 io i94 iP hm84; exact absurd hm84 (Nat.not_lt_zero _)
          | succ fu84 ih84 =>
            intro p q77 q94 q81 q82 q83 hp16 i27 i8 io i94 iP hm84
            refine V.iload_n (pc := 84) 1 dX8_passAll_84 rfl ?_
            refine V.bipush (pc := 85) (z := 16) dX8_passAll_85 (by decide +kernel) ⟨by decide, by decide⟩ ?_
            refine V.icmp_ge (pc := 87) 144 dX8_passAll_87 (by decide) (fun h87 => ?_) (fun h87 => ?_)
            · skip
              refine V.vret (pc := 144) dX8_passAll_144 rfl ?_
              exact hq _ _ _ _ _ _ _ i8 io i94 (fun c hc => iB c (by omega)) (fun q hq => iP q (by omega))
            · skip
              refine V.aload_n (pc := 90) 0 dX8_passAll_90 rfl ?_
              refine V.gr (pc := 91) 8 5 81 flX8_19 dX8_passAll_91 (kS_77) (by decide) (by decide) rfl (kR_77_5) ?_
              refine V.iload_n (pc := 94) 1 dX8_passAll_94 rfl ?_
              refine V.aload_n (pc := 95) 0 dX8_passAll_95 rfl ?_
              refine V.aload_n (pc := 96) 0 dX8_passAll_96 rfl ?_
              refine V.gr (pc := 97) 8 5 81 flX8_19 dX8_passAll_97 (kS_77) (by decide) (by decide) rfl (kR_77_5) ?_
              refine V.iload_n (pc := 100) 1 dX8_passAll_100 rfl ?_
              refine V.ia (pc := 101) (len := 16) p (q81 p) dX8_passAll_101 (kS_81) (rfl) (by omega) (rfl) ?_
              refine V.callV (pc := 102) (e1 := eX8_pass) (o := 77) (c := 8) 1 [vI (q81 p)] [vI ((p : Nat) : Int), vR 81] mfX8_pass slX8_pass mlX8_282 dX8_passAll_102 (kS_77) (by decide) rfl rfl rfl (Nat.le_of_ble_eq_true rfl) ⟨by decide, by decide, by decide, by decide⟩ ?_
              refine c_X8_passR (upR (upR (upR (upR (upR (upR (upR hi 77 q77) 80 q80) 84 q84) 94 q94) 81 q81) 82 q82) 83 q83) hl (b0 + 15 + 3 * p) (i27) (by omega) (((io 28 (by decide) (by decide) (by decide) (by decide)).trans h28)) (q81 p) _ ?_
              refine V.qI (pc := 102) rfl rfl ?_
              refine V.hieq (hi' := (upR (upR (upR (upR (upR (upR (upR hi 77 (updF q77 27 (((b0 + 15 + 3 * p) + 1 : Nat) : Int))) 80 q80) 84 q84) 94 (updF q94 (b0 + 15 + 3 * p) (q94 (b0 + 15 + 3 * p)))) 81 q81) 82 q82) 83 q83)) ((upR_c (rs (by decide) (rs (by decide) (rs (by decide) (rs (by decide) (rs (by decide) (rs (by decide) r1))))))).trans (rs (by decide) (rs (by decide) (rs (by decide) r1)))) ?_
              refine V.is (pc := 105) (len := 16) (hi' := (upR (upR (upR (upR (upR (upR (upR hi 77 (updF q77 27 (((b0 + 15 + 3 * p) + 1 : Nat) : Int))) 80 q80) 84 q84) 94 (updF q94 (b0 + 15 + 3 * p) (q94 (b0 + 15 + 3 * p)))) 81 (updF q81 p (q94 (b0 + 15 + 3 * p)))) 82 q82) 83 q83)) p dX8_passAll_105 (kS_81) (rfl) (by omega) (us (by decide) (us (by decide) u1)) ?_
              refine V.aload_n (pc := 106) 0 dX8_passAll_106 rfl ?_
              refine V.gr (pc := 107) 8 6 82 flX8_22 dX8_passAll_107 (kS_77) (by decide) (by decide) rfl (kR_77_6) ?_
              refine V.iload_n (pc := 110) 1 dX8_passAll_110 rfl ?_
              refine V.aload_n (pc := 111) 0 dX8_passAll_111 rfl ?_
              refine V.aload_n (pc := 112) 0 dX8_passAll_112 rfl ?_
              refine V.gr (pc := 113) 8 6 82 flX8_22 dX8_passAll_113 (kS_77) (by decide) (by decide) rfl (kR_77_6) ?_
              refine V.iload_n (pc := 116) 1 dX8_passAll_116 rfl ?_
              refine V.ia (pc := 117) (len := 16) p (q82 p) dX8_passAll_117 (kS_82) (rfl) (by omega) (rfl) ?_
              refine V.callV (pc := 118) (e1 := eX8_pass) (o := 77) (c := 8) 1 [vI (q82 p)] [vI ((p : Nat) : Int), vR 82] mfX8_pass slX8_pass mlX8_282 dX8_passAll_118 (kS_77) (by decide) rfl rfl rfl (Nat.le_of_ble_eq_true rfl) ⟨by decide, by decide, by decide, by decide⟩ ?_
              refine c_X8_passR (upR (upR (upR (upR (upR (upR (upR hi 77 (updF q77 27 (((b0 + 15 + 3 * p) + 1 : Nat) : Int))) 80 q80) 84 q84) 94 (updF q94 (b0 + 15 + 3 * p) (q94 (b0 + 15 + 3 * p)))) 81 (updF q81 p (q94 (b0 + 15 + 3 * p)))) 82 q82) 83 q83) hl (b0 + 16 + 3 * p) (by show (updF q77 27 (((b0 + 15 + 3 * p) + 1 : Nat) : Int)) 27 = _; rw [updF_s] <;> omega) (by omega) (by show (updF q77 27 (((b0 + 15 + 3 * p) + 1 : Nat) : Int)) 28 = _; rw [updF_n (by decide)]; exact ((io 28 (by decide) (by decide) (by decide) (by decide)).trans h28)) (q82 p) _ ?_
              refine V.qI (pc := 118) rfl rfl ?_
              refine V.hieq (hi' := (upR (upR (upR (upR (upR (upR (upR hi 77 (updF (updF q77 27 (((b0 + 15 + 3 * p) + 1 : Nat) : Int)) 27 (((b0 + 16 + 3 * p) + 1 : Nat) : Int))) 80 q80) 84 q84) 94 (updF (updF q94 (b0 + 15 + 3 * p) (q94 (b0 + 15 + 3 * p))) (b0 + 16 + 3 * p) ((updF q94 (b0 + 15 + 3 * p) (q94 (b0 + 15 + 3 * p))) (b0 + 16 + 3 * p)))) 81 (updF q81 p (q94 (b0 + 15 + 3 * p)))) 82 q82) 83 q83)) ((upR_c (rs (by decide) (rs (by decide) (rs (by decide) (rs (by decide) (rs (by decide) (rs (by decide) r1))))))).trans (rs (by decide) (rs (by decide) (rs (by decide) r1)))) ?_
              refine V.is (pc := 121) (len := 16) (hi' := (upR (upR (upR (upR (upR (upR (upR hi 77 (updF (updF q77 27 (((b0 + 15 + 3 * p) + 1 : Nat) : Int)) 27 (((b0 + 16 + 3 * p) + 1 : Nat) : Int))) 80 q80) 84 q84) 94 (updF (updF q94 (b0 + 15 + 3 * p) (q94 (b0 + 15 + 3 * p))) (b0 + 16 + 3 * p) ((updF q94 (b0 + 15 + 3 * p) (q94 (b0 + 15 + 3 * p))) (b0 + 16 + 3 * p)))) 81 (updF q81 p (q94 (b0 + 15 + 3 * p)))) 82 (updF q82 p ((updF q94 (b0 + 15 + 3 * p) (q94 (b0 + 15 + 3 * p))) (b0 + 16 + 3 * p)))) 83 q83)) p dX8_passAll_121 (kS_82) (rfl) (by omega) (us (by decide) u1) ?_
              refine V.aload_n (pc := 122) 0 dX8_passAll_122 rfl ?_
              refine V.gr (pc := 123) 8 7 83 flX8_25 dX8_passAll_123 (kS_77) (by decide) (by decide) rfl (kR_77_7) ?_
              refine V.iload_n (pc := 126) 1 dX8_passAll_126 rfl ?_
              refine V.aload_n (pc := 127) 0 dX8_passAll_127 rfl ?_
              refine V.aload_n (pc := 128) 0 dX8_passAll_128 rfl ?_
              refine V.gr (pc := 129) 8 7 83 flX8_25 dX8_passAll_129 (kS_77) (by decide) (by decide) rfl (kR_77_7) ?_
              refine V.iload_n (pc := 132) 1 dX8_passAll_132 rfl ?_
              refine V.ia (pc := 133) (len := 16) p (q83 p) dX8_passAll_133 (kS_83) (rfl) (by omega) (rfl) ?_
              refine V.callV (pc := 134) (e1 := eX8_pass) (o := 77) (c := 8) 1 [vI (q83 p)] [vI ((p : Nat) : Int), vR 83] mfX8_pass slX8_pass mlX8_282 dX8_passAll_134 (kS_77) (by decide) rfl rfl rfl (Nat.le_of_ble_eq_true rfl) ⟨by decide, by decide, by decide, by decide⟩ ?_
              refine c_X8_passR (upR (upR (upR (upR (upR (upR (upR hi 77 (updF (updF q77 27 (((b0 + 15 + 3 * p) + 1 : Nat) : Int)) 27 (((b0 + 16 + 3 * p) + 1 : Nat) : Int))) 80 q80) 84 q84) 94 (updF (updF q94 (b0 + 15 + 3 * p) (q94 (b0 + 15 + 3 * p))) (b0 + 16 + 3 * p) ((updF q94 (b0 + 15 + 3 * p) (q94 (b0 + 15 + 3 * p))) (b0 + 16 + 3 * p)))) 81 (updF q81 p (q94 (b0 + 15 + 3 * p)))) 82 (updF q82 p ((updF q94 (b0 + 15 + 3 * p) (q94 (b0 + 15 + 3 * p))) (b0 + 16 + 3 * p)))) 83 q83) hl (b0 + 17 + 3 * p) (by show (updF (updF q77 27 (((b0 + 15 + 3 * p) + 1 : Nat) : Int)) 27 (((b0 + 16 + 3 * p) + 1 : Nat) : Int)) 27 = _; rw [updF_s] <;> omega) (by omega) (by show (updF (updF q77 27 (((b0 + 15 + 3 * p) + 1 : Nat) : Int)) 27 (((b0 + 16 + 3 * p) + 1 : Nat) : Int)) 28 = _; rw [updF_n (by decide), updF_n (by decide)]; exact ((io 28 (by decide) (by decide) (by decide) (by decide)).trans h28)) (q83 p) _ ?_
              refine V.qI (pc := 134) rfl rfl ?_
              refine V.hieq (hi' := (upR (upR (upR (upR (upR (upR (upR hi 77 (updF (updF (updF q77 27 (((b0 + 15 + 3 * p) + 1 : Nat) : Int)) 27 (((b0 + 16 + 3 * p) + 1 : Nat) : Int)) 27 (((b0 + 17 + 3 * p) + 1 : Nat) : Int))) 80 q80) 84 q84) 94 (updF (updF (updF q94 (b0 + 15 + 3 * p) (q94 (b0 + 15 + 3 * p))) (b0 + 16 + 3 * p) ((updF q94 (b0 + 15 + 3 * p) (q94 (b0 + 15 + 3 * p))) (b0 + 16 + 3 * p))) (b0 + 17 + 3 * p) ((updF (updF q94 (b0 + 15 + 3 * p) (q94 (b0 + 15 + 3 * p))) (b0 + 16 + 3 * p) ((updF q94 (b0 + 15 + 3 * p) (q94 (b0 + 15 + 3 * p))) (b0 + 16 + 3 * p))) (b0 + 17 + 3 * p)))) 81 (updF q81 p (q94 (b0 + 15 + 3 * p)))) 82 (updF q82 p ((updF q94 (b0 + 15 + 3 * p) (q94 (b0 + 15 + 3 * p))) (b0 + 16 + 3 * p)))) 83 q83)) ((upR_c (rs (by decide) (rs (by decide) (rs (by decide) (rs (by decide) (rs (by decide) (rs (by decide) r1))))))).trans (rs (by decide) (rs (by decide) (rs (by decide) r1)))) ?_
              refine V.is (pc := 137) (len := 16) (hi' := (upR (upR (upR (upR (upR (upR (upR hi 77 (updF (updF (updF q77 27 (((b0 + 15 + 3 * p) + 1 : Nat) : Int)) 27 (((b0 + 16 + 3 * p) + 1 : Nat) : Int)) 27 (((b0 + 17 + 3 * p) + 1 : Nat) : Int))) 80 q80) 84 q84) 94 (updF (updF (updF q94 (b0 + 15 + 3 * p) (q94 (b0 + 15 + 3 * p))) (b0 + 16 + 3 * p) ((updF q94 (b0 + 15 + 3 * p) (q94 (b0 + 15 + 3 * p))) (b0 + 16 + 3 * p))) (b0 + 17 + 3 * p) ((updF (updF q94 (b0 + 15 + 3 * p) (q94 (b0 + 15 + 3 * p))) (b0 + 16 + 3 * p) ((updF q94 (b0 + 15 + 3 * p) (q94 (b0 + 15 + 3 * p))) (b0 + 16 + 3 * p))) (b0 + 17 + 3 * p)))) 81 (updF q81 p (q94 (b0 + 15 + 3 * p)))) 82 (updF q82 p ((updF q94 (b0 + 15 + 3 * p) (q94 (b0 + 15 + 3 * p))) (b0 + 16 + 3 * p)))) 83 (updF q83 p ((updF (updF q94 (b0 + 15 + 3 * p) (q94 (b0 + 15 + 3 * p))) (b0 + 16 + 3 * p) ((updF q94 (b0 + 15 + 3 * p) (q94 (b0 + 15 + 3 * p))) (b0 + 16 + 3 * p))) (b0 + 17 + 3 * p))))) p dX8_passAll_137 (kS_83) (rfl) (by omega) u1 ?_
              refine V.iinc (pc := 138) (r := ((p + 1 : Nat) : Int)) 1 dX8_passAll_138 rfl (w32_of (by omega) (by omega) (by omega)) (by decide) (ls' := [(1, vI ((p + 1 : Nat) : Int)), (0, vR 77)]) rfl ?_
              refine V.goto (pc := 141) 84 dX8_passAll_141 (by decide) ?_
              refine V.locs [1, 0] (ls' := [(0, vR 77), (1, vI ((p + 1 : Nat) : Int))]) rfl ?_
              exact ih84 (p + 1) (updF (updF (updF q77 27 (((b0 + 15 + 3 * p) + 1 : Nat) : Int)) 27 (((b0 + 16 + 3 * p) + 1 : Nat) : Int)) 27 (((b0 + 17 + 3 * p) + 1 : Nat) : Int)) (updF (updF (updF q94 (b0 + 15 + 3 * p) (q94 (b0 + 15 + 3 * p))) (b0 + 16 + 3 * p) ((updF q94 (b0 + 15 + 3 * p) (q94 (b0 + 15 + 3 * p))) (b0 + 16 + 3 * p))) (b0 + 17 + 3 * p) ((updF (updF q94 (b0 + 15 + 3 * p) (q94 (b0 + 15 + 3 * p))) (b0 + 16 + 3 * p) ((updF q94 (b0 + 15 + 3 * p) (q94 (b0 + 15 + 3 * p))) (b0 + 16 + 3 * p))) (b0 + 17 + 3 * p))) (updF q81 p (q94 (b0 + 15 + 3 * p))) (updF q82 p ((updF q94 (b0 + 15 + 3 * p) (q94 (b0 + 15 + 3 * p))) (b0 + 16 + 3 * p))) (updF q83 p ((updF (updF q94 (b0 + 15 + 3 * p) (q94 (b0 + 15 + 3 * p))) (b0 + 16 + 3 * p) ((updF q94 (b0 + 15 + 3 * p) (q94 (b0 + 15 + 3 * p))) (b0 + 16 + 3 * p))) (b0 + 17 + 3 * p))) (by omega) (by rw [updF_s]; omega) (by rw [updF_n (by decide), updF_n (by decide), updF_n (by decide), updF_n (by decide), updF_n (by decide), updF_n (by decide), updF_n (by decide), updF_n (by decide), updF_n (by decide)]; exact i8) (fun j h8 h9 h11 h27 => by rw [updF_n h27, updF_n h27, updF_n h27]; exact io j h8 h9 h11 h27) (by rw [updF_id rfl, updF_id rfl, updF_id rfl]; exact i94) (fun q hq => by by_cases e : q = p; { subst e; rw [updF_s, updF_s, updF_s, updF_id rfl, updF_id rfl, i94]; exact ⟨rfl, rfl, rfl⟩ }; { rw [updF_n e, updF_n e, updF_n e]; exact iP q (by omega) }) (by omega)
        refine V.locs [1, 0] (ls' := [(0, vR 77), (1, vI 0)]) rfl ?_
        exact lp84 _ 0 q77 q94 (hi 81) (hi 82) (hi 83) (by omega) (by omega) (i8) (io) (i94) (fun q hq => absurd hq (Nat.not_lt_zero q)) (Nat.lt_succ_self _)
      · skip
        refine V.aload_n (pc := 44) 0 dX8_passAll_44 rfl ?_
        refine V.gr (pc := 45) 8 4 80 flX8_16 dX8_passAll_45 (kS_77) (by decide) (by decide) rfl (kR_77_4) ?_
        refine V.iload_n (pc := 48) 1 dX8_passAll_48 rfl ?_
        refine V.aload_n (pc := 49) 0 dX8_passAll_49 rfl ?_
        refine V.aload_n (pc := 50) 0 dX8_passAll_50 rfl ?_
        refine V.gr (pc := 51) 8 4 80 flX8_16 dX8_passAll_51 (kS_77) (by decide) (by decide) rfl (kR_77_4) ?_
        refine V.iload_n (pc := 54) 1 dX8_passAll_54 rfl ?_
        refine V.ia (pc := 55) (len := 6) b (q80 b) dX8_passAll_55 (kS_80) (rfl) (by omega) (rfl) ?_
        refine V.callV (pc := 56) (e1 := eX8_pass) (o := 77) (c := 8) 1 [vI (q80 b)] [vI ((b : Nat) : Int), vR 80] mfX8_pass slX8_pass mlX8_282 dX8_passAll_56 (kS_77) (by decide) rfl rfl rfl (Nat.le_of_ble_eq_true rfl) ⟨by decide, by decide, by decide, by decide⟩ ?_
        refine c_X8_passR (upR (upR (upR (upR (upR (upR (upR hi 77 q77) 80 q80) 84 q84) 94 q94) 81 (hi 81)) 82 (hi 82)) 83 (hi 83)) hl (b0 + 3 + 2 * b) (i27) (by omega) (((io 28 (by decide) (by decide) (by decide) (by decide)).trans h28)) (q80 b) _ ?_
        refine V.qI (pc := 56) rfl rfl ?_
        refine V.hieq (hi' := (upR (upR (upR (upR (upR (upR (upR hi 77 (updF q77 27 (((b0 + 3 + 2 * b) + 1 : Nat) : Int))) 80 q80) 84 q84) 94 (updF q94 (b0 + 3 + 2 * b) (q94 (b0 + 3 + 2 * b)))) 81 (hi 81)) 82 (hi 82)) 83 (hi 83))) ((upR_c (rs (by decide) (rs (by decide) (rs (by decide) (rs (by decide) (rs (by decide) (rs (by decide) r1))))))).trans (rs (by decide) (rs (by decide) (rs (by decide) r1)))) ?_
        refine V.is (pc := 59) (len := 6) (hi' := (upR (upR (upR (upR (upR (upR (upR hi 77 (updF q77 27 (((b0 + 3 + 2 * b) + 1 : Nat) : Int))) 80 (updF q80 b (q94 (b0 + 3 + 2 * b)))) 84 q84) 94 (updF q94 (b0 + 3 + 2 * b) (q94 (b0 + 3 + 2 * b)))) 81 (hi 81)) 82 (hi 82)) 83 (hi 83))) b dX8_passAll_59 (kS_80) (rfl) (by omega) (us (by decide) (us (by decide) (us (by decide) (us (by decide) (us (by decide) u1))))) ?_
        refine V.aload_n (pc := 60) 0 dX8_passAll_60 rfl ?_
        refine V.gr (pc := 61) 8 10 84 flX8_28 dX8_passAll_61 (kS_77) (by decide) (by decide) rfl (kR_77_10) ?_
        refine V.iload_n (pc := 64) 1 dX8_passAll_64 rfl ?_
        refine V.aload_n (pc := 65) 0 dX8_passAll_65 rfl ?_
        refine V.aload_n (pc := 66) 0 dX8_passAll_66 rfl ?_
        refine V.gr (pc := 67) 8 10 84 flX8_28 dX8_passAll_67 (kS_77) (by decide) (by decide) rfl (kR_77_10) ?_
        refine V.iload_n (pc := 70) 1 dX8_passAll_70 rfl ?_
        refine V.ia (pc := 71) (len := 6) b (q84 b) dX8_passAll_71 (kS_84) (rfl) (by omega) (rfl) ?_
        refine V.callV (pc := 72) (e1 := eX8_pass) (o := 77) (c := 8) 1 [vI (q84 b)] [vI ((b : Nat) : Int), vR 84] mfX8_pass slX8_pass mlX8_282 dX8_passAll_72 (kS_77) (by decide) rfl rfl rfl (Nat.le_of_ble_eq_true rfl) ⟨by decide, by decide, by decide, by decide⟩ ?_
        refine c_X8_passR (upR (upR (upR (upR (upR (upR (upR hi 77 (updF q77 27 (((b0 + 3 + 2 * b) + 1 : Nat) : Int))) 80 (updF q80 b (q94 (b0 + 3 + 2 * b)))) 84 q84) 94 (updF q94 (b0 + 3 + 2 * b) (q94 (b0 + 3 + 2 * b)))) 81 (hi 81)) 82 (hi 82)) 83 (hi 83)) hl (b0 + 4 + 2 * b) (by show (updF q77 27 (((b0 + 3 + 2 * b) + 1 : Nat) : Int)) 27 = _; rw [updF_s] <;> omega) (by omega) (by show (updF q77 27 (((b0 + 3 + 2 * b) + 1 : Nat) : Int)) 28 = _; rw [updF_n (by decide)]; exact ((io 28 (by decide) (by decide) (by decide) (by decide)).trans h28)) (q84 b) _ ?_
        refine V.qI (pc := 72) rfl rfl ?_
        refine V.hieq (hi' := (upR (upR (upR (upR (upR (upR (upR hi 77 (updF (updF q77 27 (((b0 + 3 + 2 * b) + 1 : Nat) : Int)) 27 (((b0 + 4 + 2 * b) + 1 : Nat) : Int))) 80 (updF q80 b (q94 (b0 + 3 + 2 * b)))) 84 q84) 94 (updF (updF q94 (b0 + 3 + 2 * b) (q94 (b0 + 3 + 2 * b))) (b0 + 4 + 2 * b) ((updF q94 (b0 + 3 + 2 * b) (q94 (b0 + 3 + 2 * b))) (b0 + 4 + 2 * b)))) 81 (hi 81)) 82 (hi 82)) 83 (hi 83))) ((upR_c (rs (by decide) (rs (by decide) (rs (by decide) (rs (by decide) (rs (by decide) (rs (by decide) r1))))))).trans (rs (by decide) (rs (by decide) (rs (by decide) r1)))) ?_
        refine V.is (pc := 75) (len := 6) (hi' := (upR (upR (upR (upR (upR (upR (upR hi 77 (updF (updF q77 27 (((b0 + 3 + 2 * b) + 1 : Nat) : Int)) 27 (((b0 + 4 + 2 * b) + 1 : Nat) : Int))) 80 (updF q80 b (q94 (b0 + 3 + 2 * b)))) 84 (updF q84 b ((updF q94 (b0 + 3 + 2 * b) (q94 (b0 + 3 + 2 * b))) (b0 + 4 + 2 * b)))) 94 (updF (updF q94 (b0 + 3 + 2 * b) (q94 (b0 + 3 + 2 * b))) (b0 + 4 + 2 * b) ((updF q94 (b0 + 3 + 2 * b) (q94 (b0 + 3 + 2 * b))) (b0 + 4 + 2 * b)))) 81 (hi 81)) 82 (hi 82)) 83 (hi 83))) b dX8_passAll_75 (kS_84) (rfl) (by omega) (us (by decide) (us (by decide) (us (by decide) (us (by decide) u1)))) ?_
        refine V.iinc (pc := 76) (r := ((b + 1 : Nat) : Int)) 1 dX8_passAll_76 rfl (w32_of (by omega) (by omega) (by omega)) (by decide) (ls' := [(1, vI ((b + 1 : Nat) : Int)), (0, vR 77)]) rfl ?_
        refine V.goto (pc := 79) 38 dX8_passAll_79 (by decide) ?_
        refine V.locs [1, 0] (ls' := [(0, vR 77), (1, vI ((b + 1 : Nat) : Int))]) rfl ?_
        exact ih38 (b + 1) (updF (updF q77 27 (((b0 + 3 + 2 * b) + 1 : Nat) : Int)) 27 (((b0 + 4 + 2 * b) + 1 : Nat) : Int)) (updF q80 b (q94 (b0 + 3 + 2 * b))) (updF q84 b ((updF q94 (b0 + 3 + 2 * b) (q94 (b0 + 3 + 2 * b))) (b0 + 4 + 2 * b))) (updF (updF q94 (b0 + 3 + 2 * b) (q94 (b0 + 3 + 2 * b))) (b0 + 4 + 2 * b) ((updF q94 (b0 + 3 + 2 * b) (q94 (b0 + 3 + 2 * b))) (b0 + 4 + 2 * b))) (by omega) (by rw [updF_s]; omega) (by rw [updF_n (by decide), updF_n (by decide), updF_n (by decide), updF_n (by decide), updF_n (by decide), updF_n (by decide)]; exact i8) (fun j h8 h9 h11 h27 => by rw [updF_n h27, updF_n h27]; exact io j h8 h9 h11 h27) (by rw [updF_id rfl, updF_id rfl]; exact i94) (fun c hc => by by_cases e : c = b; { subst e; rw [updF_s, updF_s, updF_id rfl, i94]; exact ⟨rfl, rfl⟩ }; { rw [updF_n e, updF_n e]; exact iB c (by omega) }) (by omega)
  refine V.locs [1, 0] (ls' := [(0, vR 77), (1, vI 0)]) rfl ?_
  exact lp38 _ 0 (updF (updF (updF (updF (updF (updF (hi 77) 27 ((b0 + 1 : Nat) : Int)) 8 ((hi 94) b0)) 27 (((b0 + 1) + 1 : Nat) : Int)) 9 ((updF (hi 94) b0 ((hi 94) b0)) (b0 + 1))) 27 (((b0 + 2) + 1 : Nat) : Int)) 11 ((updF (updF (hi 94) b0 ((hi 94) b0)) (b0 + 1) ((updF (hi 94) b0 ((hi 94) b0)) (b0 + 1))) (b0 + 2))) (hi 80) (hi 84) (updF (updF (updF (hi 94) b0 ((hi 94) b0)) (b0 + 1) ((updF (hi 94) b0 ((hi 94) b0)) (b0 + 1))) (b0 + 2) ((updF (updF (hi 94) b0 ((hi 94) b0)) (b0 + 1) ((updF (hi 94) b0 ((hi 94) b0)) (b0 + 1))) (b0 + 2))) (by omega) (by rw [updF_n (by decide), updF_s]) (⟨by rw [updF_n (by decide), updF_n (by decide), updF_n (by decide), updF_n (by decide), updF_s], by rw [updF_n (by decide), updF_n (by decide), updF_s, updF_id rfl], by rw [updF_s, updF_id rfl, updF_id rfl]⟩) (fun j h8 h9 h11 h27 => by rw [updF_n h11, updF_n h27, updF_n h9, updF_n h27, updF_n h8, updF_n h27]) (by rw [updF_id rfl, updF_id rfl, updF_id rfl]) (fun c hc => absurd hc (Nat.not_lt_zero c)) (Nat.lt_succ_self _)

set_option maxRecDepth 100000 in
theorem c_X8_image (hi hl : HI) (σ : SG) (m : Nat) (g : Nat → Int) (im : Nat → Option SG) (hR : RMo hi hl (σ, m, g, im)) (n : Int) (Q : QT) (hq : ∀ hi' hl' : HI, FrM hi hl hi' hl' → RMo hi' hl' (nImg (σ, m, g, im) n) → Q (some (vI (aImg (σ, m, g, im) n))) KW hi' hl') : Con eX8_image [vR 77, vI n] KW hi hl Q := by
  refine Con.ofV (by decide +kernel) (Nat.le_of_ble_eq_true rfl) ?_
  show V eX8_image none KW 0 [(0, vR 77), (1, vI n)] [] hi hl 0 0 Q
  refine V.hieq (hi' := (upR (upR hi 77 (hi 77)) 95 (hi 95))) (by rw [upR_id, upR_id]) ?_
  obtain ⟨hC, ⟨hm, hm2, hg5, hgr⟩, k0, k1, k2, k3⟩ := RM_o hR
  subst hg5
  have hwf := hC.1
  have hn16 := hwf.2.2.1
  have hbg := hwf.2.2.2.2.1
  refine V.iload_n (pc := 0) 1 dX8_image_0 rfl ?_
  refine V.i2l (pc := 1) dX8_image_1 ?_
  refine V.lconst (pc := 2) (z := 0) dX8_image_2 (by decide +kernel) ⟨by decide, by decide⟩ ?_
  refine V.lconst (pc := 3) (z := 1) dX8_image_3 (by decide +kernel) ⟨by decide, by decide⟩ ?_
  refine V.callS (pc := 4) (e1 := eX8_in) 3 [vL n, vL 0, vL 1] [] mfX8_in slX8_in mlX8_72 dX8_image_4 rfl rfl (Nat.le_of_ble_eq_true rfl) ⟨by decide, by decide, by decide, by decide⟩ ?_
  refine c_X8_in KW (upR (upR hi 77 (hi 77)) 95 (hi 95)) hl n 0 1 _ (fun hin => ?_) (fun hin => ?_)
  · skip
    refine V.qI (pc := 4) rfl rfl ?_
    refine V.if_ne (pc := 7) 13 dX8_image_7 (by decide) (fun h7 => ?_) (fun hc => by exact absurd hc (by decide))
    rcases (show n = 0 ∨ n = 1 by omega) with rfl | rfl
    · skip
      refine V.aload_n (pc := 13) 0 dX8_image_13 rfl ?_
      refine V.bipush (pc := 14) (z := 80) dX8_image_14 (by decide +kernel) ⟨by decide, by decide⟩ ?_
      refine V.iload_n (pc := 16) 1 dX8_image_16 rfl ?_
      refine V.imul (pc := 17) (0) dX8_image_17 (w32_of (by omega) (by omega) (by omega)) ?_
      refine V.pi (pc := 18) (hi' := (upR (upR hi 77 (updF (hi 77) 27 0)) 95 (hi 95))) 8 27 flX8_279 dX8_image_18 (kS_77) (by decide) (by decide) rfl rfl (us (by decide) u1) ?_
      refine V.aload_n (pc := 21) 0 dX8_image_21 rfl ?_
      refine V.iconst (pc := 22) (z := 1) dX8_image_22 rfl ⟨by decide, by decide⟩ ?_
      refine V.pz (pc := 23) (hi' := (upR (upR hi 77 (updF (updF (hi 77) 27 0) 28 1)) 95 (hi 95))) 8 28 flX8_275 dX8_image_23 (kS_77) (by decide) (by decide) rfl rfl (Or.inr rfl) (us (by decide) u1) ?_
      refine V.aload_n (pc := 26) 0 dX8_image_26 rfl ?_
      refine V.callV (pc := 27) (e1 := eX8_passAll) (o := 77) (c := 8) 0 [] [] mfX8_passAll slX8_passAll mlX8_285 dX8_image_27 (kS_77) (by decide) rfl rfl rfl (Nat.le_of_ble_eq_true rfl) ⟨by decide, by decide, by decide, by decide⟩ ?_
      refine c_X8_passAllW (upR (upR hi 77 (updF (updF (hi 77) 27 0) 28 1)) 95 (hi 95)) hl 0 (by omega) (by show (updF (updF (hi 77) 27 0) 28 1) 27 = _; rw [updF_n (by decide), updF_s] <;> omega) (by show (updF (updF (hi 77) 27 0) 28 1) 28 = _; rw [updF_s] <;> omega) _ (fun f77 f80 f84 f94 f81 f82 f83 w1 w2 w3 w4 w5 w6 w7 => ?_)
      have w1 : ∀ j, j ≠ 27 → f77 j = (updF (updF (hi 77) 27 0) 28 1) j := w1
      subst w2 w3 w4 w5 w6
      refine V.qV (pc := 27) rfl rfl ?_
      refine V.hieq (hi' := (upR (upR (upR (upR (upR (upR (upR (upR hi 83 (hi 83)) 82 (hi 82)) 81 (hi 81)) 94 f94) 84 (hi 84)) 80 (hi 80)) 77 f77) 95 (hi 95))) ((upR_c ((upR_c ((upR_c ((upR_c ((upR_c ((upR_c (rs (by decide) r1)).trans (rs (by decide) (rs (by decide) r0)))).trans (rs (by decide) (rs (by decide) (rs (by decide) r0))))).trans (rs (by decide) (rs (by decide) (rs (by decide) (rs (by decide) r0)))))).trans (rs (by decide) (rs (by decide) (rs (by decide) (rs (by decide) (rs (by decide) r0))))))).trans (rs (by decide) (rs (by decide) (rs (by decide) (rs (by decide) (rs (by decide) (rs (by decide) r0)))))))).trans (rs (by decide) (rs (by decide) (rs (by decide) (rs (by decide) (rs (by decide) (rs (by decide) (rs (by decide) r0)))))))) ?_
      refine V.aload_n (pc := 30) 0 dX8_image_30 rfl ?_
      refine V.gr (pc := 31) 8 26 95 flX8_63 dX8_image_31 (kS_77) (by decide) (by decide) rfl (kR_77_26) ?_
      refine V.iload_n (pc := 34) 1 dX8_image_34 rfl ?_
      refine V.iconst (pc := 35) (z := 1) dX8_image_35 rfl ⟨by decide, by decide⟩ ?_
      refine V.zs (pc := 36) (len := 2) (hi' := (upR (upR (upR (upR (upR (upR (upR (upR hi 83 (hi 83)) 82 (hi 82)) 81 (hi 81)) 94 f94) 84 (hi 84)) 80 (hi 80)) 77 f77) 95 (updF (hi 95) 0 1))) 0 dX8_image_36 (kS_95) (rfl) (by decide) (Or.inr rfl) u1 ?_
      refine V.iconst (pc := 37) (z := 1) dX8_image_37 rfl ⟨by decide, by decide⟩ ?_
      refine V.iret (pc := 38) (z := 1) dX8_image_38 rfl ?_
      have hA : aImg (σ, m, hi 85, im) 0 = 1 := by
        unfold aImg
        try dsimp only [gσ, gm, gg, gi]
        refine (if_neg (by first | omega | assumption)).trans ?_
        rfl
      rw [hA] at hq
      have hN : nImg (σ, m, hi 85, im) 0 = (σ, m, hi 85, updF im 0 (some σ)) := by
        unfold nImg
        try dsimp only [gσ, gm, gg, gi]
        refine (if_neg (by first | omega | assumption)).trans ?_
        rfl
      rw [hN] at hq
      exact hq _ _ (by repeat (first | exact gr0 | refine gr1 (by decide) ?_ | refine gr2 (by decide) ?_)) (RM_i (MR_up hC ((w1 8 (by decide)).trans (by rw [updF_n (by decide), updF_n (by decide)])) ((w1 9 (by decide)).trans (by rw [updF_n (by decide), updF_n (by decide)])) ((w1 11 (by decide)).trans (by rw [updF_n (by decide), updF_n (by decide)])) rfl rfl rfl rfl rfl) (((w1 13 (by decide)).trans (by rw [updF_n (by decide), updF_n (by decide)])).trans hm) (hm2) (rfl) (hgr) (by rw [show updF im 0 (some σ) 0 = some σ from updF_s]; rfl) (k1) (fun τ h => by cases h; exact K2_KR w7 (MR_up hC (by show updF (updF (hi 77) 27 0) 28 1 8 = _; rw [updF_n (by decide), updF_n (by decide)]) (by show updF (updF (hi 77) 27 0) 28 1 9 = _; rw [updF_n (by decide), updF_n (by decide)]) (by show updF (updF (hi 77) 27 0) 28 1 11 = _; rw [updF_n (by decide), updF_n (by decide)]) rfl rfl rfl rfl rfl)) (fun τ h => KR_x (k3 τ h) (fun j h1 h2 => w7.1.2.2.2.2 j (by omega))))
    · skip
      refine V.aload_n (pc := 13) 0 dX8_image_13 rfl ?_
      refine V.bipush (pc := 14) (z := 80) dX8_image_14 (by decide +kernel) ⟨by decide, by decide⟩ ?_
      refine V.iload_n (pc := 16) 1 dX8_image_16 rfl ?_
      refine V.imul (pc := 17) (80) dX8_image_17 (w32_of (by omega) (by omega) (by omega)) ?_
      refine V.pi (pc := 18) (hi' := (upR (upR hi 77 (updF (hi 77) 27 80)) 95 (hi 95))) 8 27 flX8_279 dX8_image_18 (kS_77) (by decide) (by decide) rfl rfl (us (by decide) u1) ?_
      refine V.aload_n (pc := 21) 0 dX8_image_21 rfl ?_
      refine V.iconst (pc := 22) (z := 1) dX8_image_22 rfl ⟨by decide, by decide⟩ ?_
      refine V.pz (pc := 23) (hi' := (upR (upR hi 77 (updF (updF (hi 77) 27 80) 28 1)) 95 (hi 95))) 8 28 flX8_275 dX8_image_23 (kS_77) (by decide) (by decide) rfl rfl (Or.inr rfl) (us (by decide) u1) ?_
      refine V.aload_n (pc := 26) 0 dX8_image_26 rfl ?_
      refine V.callV (pc := 27) (e1 := eX8_passAll) (o := 77) (c := 8) 0 [] [] mfX8_passAll slX8_passAll mlX8_285 dX8_image_27 (kS_77) (by decide) rfl rfl rfl (Nat.le_of_ble_eq_true rfl) ⟨by decide, by decide, by decide, by decide⟩ ?_
      refine c_X8_passAllW (upR (upR hi 77 (updF (updF (hi 77) 27 80) 28 1)) 95 (hi 95)) hl 80 (by omega) (by show (updF (updF (hi 77) 27 80) 28 1) 27 = _; rw [updF_n (by decide), updF_s] <;> omega) (by show (updF (updF (hi 77) 27 80) 28 1) 28 = _; rw [updF_s] <;> omega) _ (fun f77 f80 f84 f94 f81 f82 f83 w1 w2 w3 w4 w5 w6 w7 => ?_)
      have w1 : ∀ j, j ≠ 27 → f77 j = (updF (updF (hi 77) 27 80) 28 1) j := w1
      subst w2 w3 w4 w5 w6
      refine V.qV (pc := 27) rfl rfl ?_
      refine V.hieq (hi' := (upR (upR (upR (upR (upR (upR (upR (upR hi 83 (hi 83)) 82 (hi 82)) 81 (hi 81)) 94 f94) 84 (hi 84)) 80 (hi 80)) 77 f77) 95 (hi 95))) ((upR_c ((upR_c ((upR_c ((upR_c ((upR_c ((upR_c (rs (by decide) r1)).trans (rs (by decide) (rs (by decide) r0)))).trans (rs (by decide) (rs (by decide) (rs (by decide) r0))))).trans (rs (by decide) (rs (by decide) (rs (by decide) (rs (by decide) r0)))))).trans (rs (by decide) (rs (by decide) (rs (by decide) (rs (by decide) (rs (by decide) r0))))))).trans (rs (by decide) (rs (by decide) (rs (by decide) (rs (by decide) (rs (by decide) (rs (by decide) r0)))))))).trans (rs (by decide) (rs (by decide) (rs (by decide) (rs (by decide) (rs (by decide) (rs (by decide) (rs (by decide) r0)))))))) ?_
      refine V.aload_n (pc := 30) 0 dX8_image_30 rfl ?_
      refine V.gr (pc := 31) 8 26 95 flX8_63 dX8_image_31 (kS_77) (by decide) (by decide) rfl (kR_77_26) ?_
      refine V.iload_n (pc := 34) 1 dX8_image_34 rfl ?_
      refine V.iconst (pc := 35) (z := 1) dX8_image_35 rfl ⟨by decide, by decide⟩ ?_
      refine V.zs (pc := 36) (len := 2) (hi' := (upR (upR (upR (upR (upR (upR (upR (upR hi 83 (hi 83)) 82 (hi 82)) 81 (hi 81)) 94 f94) 84 (hi 84)) 80 (hi 80)) 77 f77) 95 (updF (hi 95) 1 1))) 1 dX8_image_36 (kS_95) (rfl) (by decide) (Or.inr rfl) u1 ?_
      refine V.iconst (pc := 37) (z := 1) dX8_image_37 rfl ⟨by decide, by decide⟩ ?_
      refine V.iret (pc := 38) (z := 1) dX8_image_38 rfl ?_
      have hA : aImg (σ, m, hi 85, im) 1 = 1 := by
        unfold aImg
        try dsimp only [gσ, gm, gg, gi]
        refine (if_neg (by first | omega | assumption)).trans ?_
        rfl
      rw [hA] at hq
      have hN : nImg (σ, m, hi 85, im) 1 = (σ, m, hi 85, updF im 1 (some σ)) := by
        unfold nImg
        try dsimp only [gσ, gm, gg, gi]
        refine (if_neg (by first | omega | assumption)).trans ?_
        rfl
      rw [hN] at hq
      exact hq _ _ (by repeat (first | exact gr0 | refine gr1 (by decide) ?_ | refine gr2 (by decide) ?_)) (RM_i (MR_up hC ((w1 8 (by decide)).trans (by rw [updF_n (by decide), updF_n (by decide)])) ((w1 9 (by decide)).trans (by rw [updF_n (by decide), updF_n (by decide)])) ((w1 11 (by decide)).trans (by rw [updF_n (by decide), updF_n (by decide)])) rfl rfl rfl rfl rfl) (((w1 13 (by decide)).trans (by rw [updF_n (by decide), updF_n (by decide)])).trans hm) (hm2) (rfl) (hgr) (k0) (by rw [show updF im 1 (some σ) 1 = some σ from updF_s]; rfl) (fun τ h => KR_x (k2 τ h) (fun j h1 h2 => w7.1.2.2.2.2 j (by omega))) (fun τ h => by cases h; exact K2_KR w7 (MR_up hC (by show updF (updF (hi 77) 27 80) 28 1 8 = _; rw [updF_n (by decide), updF_n (by decide)]) (by show updF (updF (hi 77) 27 80) 28 1 9 = _; rw [updF_n (by decide), updF_n (by decide)]) (by show updF (updF (hi 77) 27 80) 28 1 11 = _; rw [updF_n (by decide), updF_n (by decide)]) rfl rfl rfl rfl rfl)))
  · skip
    refine V.qI (pc := 4) rfl rfl ?_
    refine V.if_ne (pc := 7) 13 dX8_image_7 (by decide) (fun hc => by exact absurd hc (by decide)) (fun h7 => ?_)
    refine V.bipush (pc := 10) (z := (-2)) dX8_image_10 (by decide +kernel) ⟨by decide, by decide⟩ ?_
    refine V.iret (pc := 12) (z := (-2)) dX8_image_12 rfl ?_
    rw [upR_id, upR_id]
    have hA : aImg (σ, m, hi 85, im) n = -2 := by
      unfold aImg
      try dsimp only [gσ, gm, gg, gi]
      refine (if_pos (by first | omega | assumption)).trans ?_
      rfl
    rw [hA] at hq
    have hN : nImg (σ, m, hi 85, im) n = (σ, m, hi 85, im) := by
      unfold nImg
      try dsimp only [gσ, gm, gg, gi]
      refine (if_pos (by first | omega | assumption)).trans ?_
      rfl
    rw [hN] at hq
    exact hq _ _ (by repeat (first | exact gr0 | refine gr1 (by decide) ?_ | refine gr2 (by decide) ?_)) hR

set_option maxRecDepth 100000 in
theorem c_X8_restore (hi hl : HI) (σ : SG) (m : Nat) (g : Nat → Int) (im : Nat → Option SG) (hR : RMo hi hl (σ, m, g, im)) (n : Int) (Q : QT) (hq : ∀ hi' hl' : HI, FrM hi hl hi' hl' → RMo hi' hl' (nRes (σ, m, g, im) n) → Q (some (vI (aRes (σ, m, g, im) n))) KW hi' hl') : Con eX8_restore [vR 77, vI n] KW hi hl Q := by
  refine Con.ofV (by decide +kernel) (Nat.le_of_ble_eq_true rfl) ?_
  show V eX8_restore none KW 0 [(0, vR 77), (1, vI n)] [] hi hl 0 0 Q
  refine V.hieq (hi' := (upR hi 77 (hi 77))) (by rw [upR_id]) ?_
  obtain ⟨hC, ⟨hm, hm2, hg5, hgr⟩, k0, k1, k2, k3⟩ := RM_o hR
  subst hg5
  have hwf := hC.1
  have hn16 := hwf.2.2.1
  have hbg := hwf.2.2.2.2.1
  refine V.iload_n (pc := 0) 1 dX8_restore_0 rfl ?_
  refine V.i2l (pc := 1) dX8_restore_1 ?_
  refine V.lconst (pc := 2) (z := 0) dX8_restore_2 (by decide +kernel) ⟨by decide, by decide⟩ ?_
  refine V.lconst (pc := 3) (z := 1) dX8_restore_3 (by decide +kernel) ⟨by decide, by decide⟩ ?_
  refine V.callS (pc := 4) (e1 := eX8_in) 3 [vL n, vL 0, vL 1] [] mfX8_in slX8_in mlX8_72 dX8_restore_4 rfl rfl (Nat.le_of_ble_eq_true rfl) ⟨by decide, by decide, by decide, by decide⟩ ?_
  refine c_X8_in KW (upR hi 77 (hi 77)) hl n 0 1 _ (fun hin => ?_) (fun hin => ?_)
  · skip
    refine V.qI (pc := 4) rfl rfl ?_
    refine V.if_ne (pc := 7) 13 dX8_restore_7 (by decide) (fun h7 => ?_) (fun hc => by exact absurd hc (by decide))
    rcases (show n = 0 ∨ n = 1 by omega) with rfl | rfl
    · skip
      refine V.aload_n (pc := 13) 0 dX8_restore_13 rfl ?_
      refine V.gr (pc := 14) 8 26 95 flX8_63 dX8_restore_14 (kS_77) (by decide) (by decide) rfl (kR_77_26) ?_
      refine V.iload_n (pc := 17) 1 dX8_restore_17 rfl ?_
      refine V.za (pc := 18) (len := 2) 0 (b2i (im 0).isSome) dX8_restore_18 (kS_95) (rfl) (by decide) (k0) ?_
      refine V.if_ne (pc := 19) 25 dX8_restore_19 (by decide) (fun h19 => ?_) (fun h19 => ?_)
      · obtain ⟨τ, hτ⟩ : ∃ τ, im 0 = some τ := Option.isSome_iff_exists.mp (b2i_T h19)
        refine V.aload_n (pc := 25) 0 dX8_restore_25 rfl ?_
        refine V.bipush (pc := 26) (z := 80) dX8_restore_26 (by decide +kernel) ⟨by decide, by decide⟩ ?_
        refine V.iload_n (pc := 28) 1 dX8_restore_28 rfl ?_
        refine V.imul (pc := 29) (0) dX8_restore_29 (w32_of (by omega) (by omega) (by omega)) ?_
        refine V.pi (pc := 30) (hi' := (upR hi 77 (updF (hi 77) 27 0))) 8 27 flX8_279 dX8_restore_30 (kS_77) (by decide) (by decide) rfl rfl u1 ?_
        refine V.aload_n (pc := 33) 0 dX8_restore_33 rfl ?_
        refine V.iconst (pc := 34) (z := 0) dX8_restore_34 rfl ⟨by decide, by decide⟩ ?_
        refine V.pz (pc := 35) (hi' := (upR hi 77 (updF (updF (hi 77) 27 0) 28 0))) 8 28 flX8_275 dX8_restore_35 (kS_77) (by decide) (by decide) rfl rfl (Or.inl rfl) u1 ?_
        refine V.aload_n (pc := 38) 0 dX8_restore_38 rfl ?_
        refine V.callV (pc := 39) (e1 := eX8_passAll) (o := 77) (c := 8) 0 [] [] mfX8_passAll slX8_passAll mlX8_285 dX8_restore_39 (kS_77) (by decide) rfl rfl rfl (Nat.le_of_ble_eq_true rfl) ⟨by decide, by decide, by decide, by decide⟩ ?_
        refine c_X8_passAllR (upR hi 77 (updF (updF (hi 77) 27 0) 28 0)) hl 0 (by omega) (by show (updF (updF (hi 77) 27 0) 28 0) 27 = _; rw [updF_n (by decide), updF_s] <;> omega) (by show (updF (updF (hi 77) 27 0) 28 0) 28 = _; rw [updF_s] <;> omega) _ (fun f77 f80 f84 f94 f81 f82 f83 w0 w1 w2 w3 w4 => ?_)
        have w1 : ∀ j, j ≠ 8 → j ≠ 9 → j ≠ 11 → j ≠ 27 → f77 j = (updF (updF (hi 77) 27 0) 28 0) j := w1
        refine V.qV (pc := 39) rfl rfl ?_
        refine V.hieq (hi' := (upR (upR (upR (upR (upR (upR (upR hi 83 f83) 82 f82) 81 f81) 94 f94) 84 f84) 80 f80) 77 f77)) ((upR_c ((upR_c ((upR_c ((upR_c ((upR_c ((upR_c r1).trans (rs (by decide) r0))).trans (rs (by decide) (rs (by decide) r0)))).trans (rs (by decide) (rs (by decide) (rs (by decide) r0))))).trans (rs (by decide) (rs (by decide) (rs (by decide) (rs (by decide) r0)))))).trans (rs (by decide) (rs (by decide) (rs (by decide) (rs (by decide) (rs (by decide) r0))))))).trans (rs (by decide) (rs (by decide) (rs (by decide) (rs (by decide) (rs (by decide) (rs (by decide) r0))))))) ?_
        refine V.iconst (pc := 42) (z := 1) dX8_restore_42 rfl ⟨by decide, by decide⟩ ?_
        refine V.iret (pc := 43) (z := 1) dX8_restore_43 rfl ?_
        have hA : aRes (σ, m, hi 85, im) 0 = 1 := by
          unfold aRes
          try dsimp only [gσ, gm, gg, gi]
          refine (if_neg (by first | omega | assumption)).trans ?_
          refine (if_neg (show ¬ im 0 = none by rw [hτ]; simp)).trans ?_
          rfl
        rw [hA] at hq
        have hN : nRes (σ, m, hi 85, im) 0 = (τ, m, hi 85, im) := by
          unfold nRes
          try dsimp only [gσ, gm, gg, gi]
          refine (if_neg (by first | omega | assumption)).trans ?_
          show (match im 0 with | none => (σ, m, hi 85, im) | some τ => (τ, m, hi 85, im)) = _
          rw [hτ]
        rw [hN] at hq
        exact hq _ _ (by repeat (first | exact gr0 | refine gr1 (by decide) ?_ | refine gr2 (by decide) ?_)) (RM_i (KR_MR (k2 τ hτ) w0 w3 w4) ((w1 13 (by decide) (by decide) (by decide) (by decide)).trans (by rw [updF_n (by decide), updF_n (by decide)]; exact hm)) (hm2) (rfl) (hgr) (k0) (k1) (fun τ h => by show KR f94 0 τ; rw [w2]; exact k2 τ h) (fun τ h => by show KR f94 80 τ; rw [w2]; exact k3 τ h))
      · have hτ : im 0 = none := Option.isNone_iff_eq_none.mp (by have := b2i_F (show b2i (im 0).isSome = 0 by omega); cases hh : im 0 with | none => rfl | some _ => rw [hh] at this; cases this)
        refine V.bipush (pc := 22) (z := (-3)) dX8_restore_22 (by decide +kernel) ⟨by decide, by decide⟩ ?_
        refine V.iret (pc := 24) (z := (-3)) dX8_restore_24 rfl ?_
        rw [upR_id]
        have hA : aRes (σ, m, hi 85, im) 0 = -3 := by
          unfold aRes
          try dsimp only [gσ, gm, gg, gi]
          refine (if_neg (by first | omega | assumption)).trans ?_
          refine (if_pos hτ).trans ?_
          rfl
        rw [hA] at hq
        have hN : nRes (σ, m, hi 85, im) 0 = (σ, m, hi 85, im) := by
          unfold nRes
          try dsimp only [gσ, gm, gg, gi]
          refine (if_neg (by first | omega | assumption)).trans ?_
          show (match im 0 with | none => (σ, m, hi 85, im) | some τ => (τ, m, hi 85, im)) = _
          rw [hτ]
        rw [hN] at hq
        exact hq _ _ (by repeat (first | exact gr0 | refine gr1 (by decide) ?_ | refine gr2 (by decide) ?_)) hR
    · skip
      refine V.aload_n (pc := 13) 0 dX8_restore_13 rfl ?_
      refine V.gr (pc := 14) 8 26 95 flX8_63 dX8_restore_14 (kS_77) (by decide) (by decide) rfl (kR_77_26) ?_
      refine V.iload_n (pc := 17) 1 dX8_restore_17 rfl ?_
      refine V.za (pc := 18) (len := 2) 1 (b2i (im 1).isSome) dX8_restore_18 (kS_95) (rfl) (by decide) (k1) ?_
      refine V.if_ne (pc := 19) 25 dX8_restore_19 (by decide) (fun h19 => ?_) (fun h19 => ?_)
      · obtain ⟨τ, hτ⟩ : ∃ τ, im 1 = some τ := Option.isSome_iff_exists.mp (b2i_T h19)
        refine V.aload_n (pc := 25) 0 dX8_restore_25 rfl ?_
        refine V.bipush (pc := 26) (z := 80) dX8_restore_26 (by decide +kernel) ⟨by decide, by decide⟩ ?_
        refine V.iload_n (pc := 28) 1 dX8_restore_28 rfl ?_
        refine V.imul (pc := 29) (80) dX8_restore_29 (w32_of (by omega) (by omega) (by omega)) ?_
        refine V.pi (pc := 30) (hi' := (upR hi 77 (updF (hi 77) 27 80))) 8 27 flX8_279 dX8_restore_30 (kS_77) (by decide) (by decide) rfl rfl u1 ?_
        refine V.aload_n (pc := 33) 0 dX8_restore_33 rfl ?_
        refine V.iconst (pc := 34) (z := 0) dX8_restore_34 rfl ⟨by decide, by decide⟩ ?_
        refine V.pz (pc := 35) (hi' := (upR hi 77 (updF (updF (hi 77) 27 80) 28 0))) 8 28 flX8_275 dX8_restore_35 (kS_77) (by decide) (by decide) rfl rfl (Or.inl rfl) u1 ?_
        refine V.aload_n (pc := 38) 0 dX8_restore_38 rfl ?_
        refine V.callV (pc := 39) (e1 := eX8_passAll) (o := 77) (c := 8) 0 [] [] mfX8_passAll slX8_passAll mlX8_285 dX8_restore_39 (kS_77) (by decide) rfl rfl rfl (Nat.le_of_ble_eq_true rfl) ⟨by decide, by decide, by decide, by decide⟩ ?_
        refine c_X8_passAllR (upR hi 77 (updF (updF (hi 77) 27 80) 28 0)) hl 80 (by omega) (by show (updF (updF (hi 77) 27 80) 28 0) 27 = _; rw [updF_n (by decide), updF_s] <;> omega) (by show (updF (updF (hi 77) 27 80) 28 0) 28 = _; rw [updF_s] <;> omega) _ (fun f77 f80 f84 f94 f81 f82 f83 w0 w1 w2 w3 w4 => ?_)
        have w1 : ∀ j, j ≠ 8 → j ≠ 9 → j ≠ 11 → j ≠ 27 → f77 j = (updF (updF (hi 77) 27 80) 28 0) j := w1
        refine V.qV (pc := 39) rfl rfl ?_
        refine V.hieq (hi' := (upR (upR (upR (upR (upR (upR (upR hi 83 f83) 82 f82) 81 f81) 94 f94) 84 f84) 80 f80) 77 f77)) ((upR_c ((upR_c ((upR_c ((upR_c ((upR_c ((upR_c r1).trans (rs (by decide) r0))).trans (rs (by decide) (rs (by decide) r0)))).trans (rs (by decide) (rs (by decide) (rs (by decide) r0))))).trans (rs (by decide) (rs (by decide) (rs (by decide) (rs (by decide) r0)))))).trans (rs (by decide) (rs (by decide) (rs (by decide) (rs (by decide) (rs (by decide) r0))))))).trans (rs (by decide) (rs (by decide) (rs (by decide) (rs (by decide) (rs (by decide) (rs (by decide) r0))))))) ?_
        refine V.iconst (pc := 42) (z := 1) dX8_restore_42 rfl ⟨by decide, by decide⟩ ?_
        refine V.iret (pc := 43) (z := 1) dX8_restore_43 rfl ?_
        have hA : aRes (σ, m, hi 85, im) 1 = 1 := by
          unfold aRes
          try dsimp only [gσ, gm, gg, gi]
          refine (if_neg (by first | omega | assumption)).trans ?_
          refine (if_neg (show ¬ im 1 = none by rw [hτ]; simp)).trans ?_
          rfl
        rw [hA] at hq
        have hN : nRes (σ, m, hi 85, im) 1 = (τ, m, hi 85, im) := by
          unfold nRes
          try dsimp only [gσ, gm, gg, gi]
          refine (if_neg (by first | omega | assumption)).trans ?_
          show (match im 1 with | none => (σ, m, hi 85, im) | some τ => (τ, m, hi 85, im)) = _
          rw [hτ]
        rw [hN] at hq
        exact hq _ _ (by repeat (first | exact gr0 | refine gr1 (by decide) ?_ | refine gr2 (by decide) ?_)) (RM_i (KR_MR (k3 τ hτ) w0 w3 w4) ((w1 13 (by decide) (by decide) (by decide) (by decide)).trans (by rw [updF_n (by decide), updF_n (by decide)]; exact hm)) (hm2) (rfl) (hgr) (k0) (k1) (fun τ h => by show KR f94 0 τ; rw [w2]; exact k2 τ h) (fun τ h => by show KR f94 80 τ; rw [w2]; exact k3 τ h))
      · have hτ : im 1 = none := Option.isNone_iff_eq_none.mp (by have := b2i_F (show b2i (im 1).isSome = 0 by omega); cases hh : im 1 with | none => rfl | some _ => rw [hh] at this; cases this)
        refine V.bipush (pc := 22) (z := (-3)) dX8_restore_22 (by decide +kernel) ⟨by decide, by decide⟩ ?_
        refine V.iret (pc := 24) (z := (-3)) dX8_restore_24 rfl ?_
        rw [upR_id]
        have hA : aRes (σ, m, hi 85, im) 1 = -3 := by
          unfold aRes
          try dsimp only [gσ, gm, gg, gi]
          refine (if_neg (by first | omega | assumption)).trans ?_
          refine (if_pos hτ).trans ?_
          rfl
        rw [hA] at hq
        have hN : nRes (σ, m, hi 85, im) 1 = (σ, m, hi 85, im) := by
          unfold nRes
          try dsimp only [gσ, gm, gg, gi]
          refine (if_neg (by first | omega | assumption)).trans ?_
          show (match im 1 with | none => (σ, m, hi 85, im) | some τ => (τ, m, hi 85, im)) = _
          rw [hτ]
        rw [hN] at hq
        exact hq _ _ (by repeat (first | exact gr0 | refine gr1 (by decide) ?_ | refine gr2 (by decide) ?_)) hR
  · skip
    refine V.qI (pc := 4) rfl rfl ?_
    refine V.if_ne (pc := 7) 13 dX8_restore_7 (by decide) (fun hc => by exact absurd hc (by decide)) (fun h7 => ?_)
    refine V.bipush (pc := 10) (z := (-2)) dX8_restore_10 (by decide +kernel) ⟨by decide, by decide⟩ ?_
    refine V.iret (pc := 12) (z := (-2)) dX8_restore_12 rfl ?_
    rw [upR_id]
    have hA : aRes (σ, m, hi 85, im) n = -2 := by
      unfold aRes
      try dsimp only [gσ, gm, gg, gi]
      refine (if_pos (by first | omega | assumption)).trans ?_
      rfl
    rw [hA] at hq
    have hN : nRes (σ, m, hi 85, im) n = (σ, m, hi 85, im) := by
      unfold nRes
      try dsimp only [gσ, gm, gg, gi]
      refine (if_pos (by first | omega | assumption)).trans ?_
      rfl
    rw [hN] at hq
    exact hq _ _ (by repeat (first | exact gr0 | refine gr1 (by decide) ?_ | refine gr2 (by decide) ?_)) hR

set_option maxRecDepth 100000 in
theorem c_X8_testified (hi hl : HI) (σ : SG) (hC : MR hi σ) (Q : QT) (hq : Q (some (vI (twF σ : Nat))) KW hi hl) : Con eX8_testified [vR 77] KW hi hl Q := by
  refine Con.ofV (by decide +kernel) (Nat.le_of_ble_eq_true rfl) ?_
  show V eX8_testified none KW 0 [(0, vR 77)] [] hi hl 0 0 Q
  refine V.iconst (pc := 0) (z := 0) dX8_testified_0 rfl ⟨by decide, by decide⟩ ?_
  refine V.istore_n (pc := 1) (i := 1) dX8_testified_1 rfl (by decide) (ls' := [(1, vI 0), (0, vR 77)]) rfl ?_
  refine V.iconst (pc := 2) (z := 0) dX8_testified_2 rfl ⟨by decide, by decide⟩ ?_
  refine V.istore_n (pc := 3) (i := 2) dX8_testified_3 rfl (by decide) (ls' := [(2, vI 0), (1, vI 0), (0, vR 77)]) rfl ?_
  have lp4 : ∀ (fu4 : Nat) (k : Nat), (k ≤ 6) → 6 - k < fu4 → V eX8_testified none KW 4 [(0, vR 77), (1, vI (((bw (fun b => encC (te σ b)) k) : Nat) : Int)), (2, vI ((k : Nat) : Int))] [] hi hl 0 0 Q := by
    intro fu4
    induction fu4 with
    | zero => intro k hk hm4; exact absurd hm4 (Nat.not_lt_zero _)
    | succ fu4 ih4 =>
      intro k hk hm4
      have htl := bw_lt (fun b => encC (te σ b)) k
      have hp6 : 2 ^ k ≤ 2 ^ 6 := Nat.pow_le_pow_right (by decide) hk
      have h64 : 2 ^ 6 = 64 := rfl
      refine V.iload_n (pc := 4) 2 dX8_testified_4 rfl ?_
      refine V.bipush (pc := 5) (z := 6) dX8_testified_5 (by decide +kernel) ⟨by decide, by decide⟩ ?_
      refine V.icmp_ge (pc := 7) 35 dX8_testified_7 (by decide) (fun h7 => ?_) (fun h7 => ?_)
      · skip
        refine V.iload_n (pc := 35) 1 dX8_testified_35 rfl ?_
        refine V.iret (pc := 36) (z := (((bw (fun b => encC (te σ b)) k) : Nat) : Int)) dX8_testified_36 rfl ?_
        have e6 : k = 6 := by omega
        subst e6
        exact hq
      · skip
        refine V.iload_n (pc := 10) 1 dX8_testified_10 rfl ?_
        refine V.aload_n (pc := 11) 0 dX8_testified_11 rfl ?_
        refine V.gr (pc := 12) 8 10 84 flX8_28 dX8_testified_12 (kS_77) (by decide) (by decide) rfl (kR_77_10) ?_
        refine V.iload_n (pc := 15) 2 dX8_testified_15 rfl ?_
        refine V.ia (pc := 16) (len := 6) k (encM (te σ k)) dX8_testified_16 (kS_84) (rfl) (by omega) (hC.2.2.1 k (by omega)) ?_
        refine V.if_ge (pc := 17) 24 dX8_testified_17 (by decide) (fun h17 => ?_) (fun h17 => ?_)
        · skip
          refine V.iconst (pc := 24) (z := 1) dX8_testified_24 rfl ⟨by decide, by decide⟩ ?_
          refine V.iload_n (pc := 25) 2 dX8_testified_25 rfl ?_
          refine V.ishl (pc := 26) (((1 * 2 ^ k : Nat) : Int)) dX8_testified_26 (sN (a := 1) (by omega) (by omega)) (rI_n (by omega)) ?_
          refine V.ior (pc := 27) ((((bw (fun b => encC (te σ b)) k) ||| 1 * 2 ^ k : Nat) : Int)) dX8_testified_27 (oN (bw (fun b => encC (te σ b)) k) (1 * 2 ^ k)) (rI_n (by have hor := bw_or htl; have hp7 : 2 ^ (k + 1) ≤ 2 ^ 6 := Nat.pow_le_pow_right (by decide) (by omega); omega)) ?_
          refine V.istore_n (pc := 28) (i := 1) dX8_testified_28 rfl (by decide) (ls' := [(1, vI (((bw (fun b => encC (te σ b)) k) ||| 1 * 2 ^ k : Nat) : Int)), (0, vR 77), (2, vI ((k : Nat) : Int))]) rfl ?_
          refine V.iinc (pc := 29) (r := ((k + 1 : Nat) : Int)) 2 dX8_testified_29 rfl (w32_of (by omega) (by omega) (by omega)) (by decide) (ls' := [(2, vI ((k + 1 : Nat) : Int)), (1, vI (((bw (fun b => encC (te σ b)) k) ||| 1 * 2 ^ k : Nat) : Int)), (0, vR 77)]) rfl ?_
          refine V.goto (pc := 32) 4 dX8_testified_32 (by decide) ?_
          refine V.locs [2, 1, 0] (ls' := [(0, vR 77), (1, vI (((bw (fun b => encC (te σ b)) k) ||| 1 * 2 ^ k : Nat) : Int)), (2, vI ((k + 1 : Nat) : Int))]) rfl ?_
          have e : bw (fun b => encC (te σ b)) (k + 1) = (bw (fun b => encC (te σ b)) k) ||| 1 * 2 ^ k := by rw [bwM_s, if_neg (by omega)]
          rw [← e]
          exact ih4 (k + 1) (by omega) (by omega)
        · skip
          refine V.iconst (pc := 20) (z := 0) dX8_testified_20 rfl ⟨by decide, by decide⟩ ?_
          refine V.goto (pc := 21) 27 dX8_testified_21 (by decide) ?_
          refine V.ior (pc := 27) ((((bw (fun b => encC (te σ b)) k) ||| 0 : Nat) : Int)) dX8_testified_27 (oN (bw (fun b => encC (te σ b)) k) 0) (rI_n (by rw [Nat.or_zero]; omega)) ?_
          refine V.istore_n (pc := 28) (i := 1) dX8_testified_28 rfl (by decide) (ls' := [(1, vI (((bw (fun b => encC (te σ b)) k) ||| 0 : Nat) : Int)), (0, vR 77), (2, vI ((k : Nat) : Int))]) rfl ?_
          refine V.iinc (pc := 29) (r := ((k + 1 : Nat) : Int)) 2 dX8_testified_29 rfl (w32_of (by omega) (by omega) (by omega)) (by decide) (ls' := [(2, vI ((k + 1 : Nat) : Int)), (1, vI (((bw (fun b => encC (te σ b)) k) ||| 0 : Nat) : Int)), (0, vR 77)]) rfl ?_
          refine V.goto (pc := 32) 4 dX8_testified_32 (by decide) ?_
          refine V.locs [2, 1, 0] (ls' := [(0, vR 77), (1, vI (((bw (fun b => encC (te σ b)) k) ||| 0 : Nat) : Int)), (2, vI ((k + 1 : Nat) : Int))]) rfl ?_
          have e : bw (fun b => encC (te σ b)) (k + 1) = (bw (fun b => encC (te σ b)) k) ||| 0 := by rw [bwM_s, if_pos (by omega), Nat.or_zero]
          rw [← e]
          exact ih4 (k + 1) (by omega) (by omega)
  refine V.locs [2, 1, 0] (ls' := [(0, vR 77), (1, vI 0), (2, vI 0)]) rfl ?_
  exact lp4 _ 0 (by omega) (Nat.lt_succ_self _)

set_option maxRecDepth 100000 in
theorem c_X8_haveHeard (hi hl : HI) (σ : SG) (hC : MR hi σ) (Q : QT) (hq : ∀ f77 f86 f87 f78 f79 : Nat → Int, (∀ j, j ≠ 1 → j ≠ 3 → j ≠ 15 → f77 j = hi 77 j) → Q (some (vI (hrF σ : Nat))) KW (upR (upR (upR (upR (upR hi 77 f77) 86 f86) 87 f87) 78 f78) 79 f79) hl) : Con eX8_haveHeard [vR 77] KW hi hl Q := by
  refine Con.ofV (by decide +kernel) (Nat.le_of_ble_eq_true rfl) ?_
  show V eX8_haveHeard none KW 0 [(0, vR 77)] [] hi hl 0 0 Q
  refine V.hieq (hi' := (upR (upR (upR (upR (upR hi 77 (hi 77)) 86 (hi 86)) 87 (hi 87)) 78 (hi 78)) 79 (hi 79))) (by rw [upR_id, upR_id, upR_id, upR_id, upR_id]) ?_
  have hwf := hC.1
  have hbg := hwf.2.2.2.2.1
  refine V.aload_n (pc := 0) 0 dX8_haveHeard_0 rfl ?_
  refine V.aload_n (pc := 1) 0 dX8_haveHeard_1 rfl ?_
  refine V.gi (pc := 2) 8 9 ((bg σ : Nat) : Int) flX8_147 dX8_haveHeard_2 (kS_77) (by decide) (by decide) rfl (hC.2.2.2.2.2.1) ?_
  refine V.bipush (pc := 5) (z := (-6)) dX8_haveHeard_5 (by decide +kernel) ⟨by decide, by decide⟩ ?_
  refine V.iconst (pc := 7) (z := 0) dX8_haveHeard_7 rfl ⟨by decide, by decide⟩ ?_
  refine V.callV (pc := 8) (e1 := eX8_goDay) (o := 77) (c := 8) 3 [vI ((bg σ : Nat) : Int), vI (-6), vI 0] [] mfX8_goDay slX8_goDay mlX8_164 dX8_haveHeard_8 (kS_77) (by decide) rfl rfl rfl (Nat.le_of_ble_eq_true rfl) ⟨by decide, by decide, by decide, by decide⟩ ?_
  refine c_X8_goDay (upR (upR (upR (upR (upR hi 77 (hi 77)) 86 (hi 86)) 87 (hi 87)) 78 (hi 78)) 79 (hi 79)) hl σ hC (bg σ) (by omega) (-6) 0 _ (fun f77 f86 f87 f78 f79 hgd hgW => ?_)
  refine V.qV (pc := 8) rfl rfl ?_
  refine V.hieq (hi' := (upR (upR (upR (upR (upR hi 77 f77) 86 f86) 87 f87) 78 f78) 79 f79)) ((upR_c ((upR_c ((upR_c ((upR_c (rs (by decide) (rs (by decide) (rs (by decide) (rs (by decide) r1))))).trans (rs (by decide) (rs (by decide) (rs (by decide) r1))))).trans (rs (by decide) (rs (by decide) r1)))).trans (rs (by decide) r1))).trans r1) ?_
  have hgW : WM f77 f86 f87 (wD σ) (nn σ) := hgW
  refine V.iconst (pc := 11) (z := 0) dX8_haveHeard_11 rfl ⟨by decide, by decide⟩ ?_
  refine V.istore_n (pc := 12) (i := 1) dX8_haveHeard_12 rfl (by decide) (ls' := [(1, vI 0), (0, vR 77)]) rfl ?_
  refine V.iconst (pc := 13) (z := 0) dX8_haveHeard_13 rfl ⟨by decide, by decide⟩ ?_
  refine V.istore_n (pc := 14) (i := 2) dX8_haveHeard_14 rfl (by decide) (ls' := [(2, vI 0), (1, vI 0), (0, vR 77)]) rfl ?_
  have lp15 : ∀ (fu15 : Nat) (k : Nat), (k ≤ 6) → 6 - k < fu15 → V eX8_haveHeard none KW 15 [(0, vR 77), (1, vI (((bw (fun b => encC ((wD σ).1 b)) k) : Nat) : Int)), (2, vI ((k : Nat) : Int))] [] (upR (upR (upR (upR (upR hi 77 f77) 86 f86) 87 f87) 78 f78) 79 f79) hl 0 0 Q := by
    intro fu15
    induction fu15 with
    | zero => intro k hk hm15; exact absurd hm15 (Nat.not_lt_zero _)
    | succ fu15 ih15 =>
      intro k hk hm15
      have htl := bw_lt (fun b => encC ((wD σ).1 b)) k
      have hp6 : 2 ^ k ≤ 2 ^ 6 := Nat.pow_le_pow_right (by decide) hk
      have h64 : 2 ^ 6 = 64 := rfl
      refine V.iload_n (pc := 15) 2 dX8_haveHeard_15 rfl ?_
      refine V.bipush (pc := 16) (z := 6) dX8_haveHeard_16 (by decide +kernel) ⟨by decide, by decide⟩ ?_
      refine V.icmp_ge (pc := 18) 46 dX8_haveHeard_18 (by decide) (fun h18 => ?_) (fun h18 => ?_)
      · skip
        refine V.iload_n (pc := 46) 1 dX8_haveHeard_46 rfl ?_
        refine V.iret (pc := 47) (z := (((bw (fun b => encC ((wD σ).1 b)) k) : Nat) : Int)) dX8_haveHeard_47 rfl ?_
        have e6 : k = 6 := by omega
        subst e6
        exact hq _ _ _ _ _ hgd
      · skip
        refine V.iload_n (pc := 21) 1 dX8_haveHeard_21 rfl ?_
        refine V.aload_n (pc := 22) 0 dX8_haveHeard_22 rfl ?_
        refine V.gr (pc := 23) 8 14 86 flX8_34 dX8_haveHeard_23 (kS_77) (by decide) (by decide) rfl (kR_77_14) ?_
        refine V.iload_n (pc := 26) 2 dX8_haveHeard_26 rfl ?_
        refine V.ia (pc := 27) (len := 6) k (encM ((wD σ).1 k)) dX8_haveHeard_27 (kS_86) (rfl) (by omega) (hgW.2.1 k (by omega)) ?_
        refine V.if_ge (pc := 28) 35 dX8_haveHeard_28 (by decide) (fun h28 => ?_) (fun h28 => ?_)
        · skip
          refine V.iconst (pc := 35) (z := 1) dX8_haveHeard_35 rfl ⟨by decide, by decide⟩ ?_
          refine V.iload_n (pc := 36) 2 dX8_haveHeard_36 rfl ?_
          refine V.ishl (pc := 37) (((1 * 2 ^ k : Nat) : Int)) dX8_haveHeard_37 (sN (a := 1) (by omega) (by omega)) (rI_n (by omega)) ?_
          refine V.ior (pc := 38) ((((bw (fun b => encC ((wD σ).1 b)) k) ||| 1 * 2 ^ k : Nat) : Int)) dX8_haveHeard_38 (oN (bw (fun b => encC ((wD σ).1 b)) k) (1 * 2 ^ k)) (rI_n (by have hor := bw_or htl; have hp7 : 2 ^ (k + 1) ≤ 2 ^ 6 := Nat.pow_le_pow_right (by decide) (by omega); omega)) ?_
          refine V.istore_n (pc := 39) (i := 1) dX8_haveHeard_39 rfl (by decide) (ls' := [(1, vI (((bw (fun b => encC ((wD σ).1 b)) k) ||| 1 * 2 ^ k : Nat) : Int)), (0, vR 77), (2, vI ((k : Nat) : Int))]) rfl ?_
          refine V.iinc (pc := 40) (r := ((k + 1 : Nat) : Int)) 2 dX8_haveHeard_40 rfl (w32_of (by omega) (by omega) (by omega)) (by decide) (ls' := [(2, vI ((k + 1 : Nat) : Int)), (1, vI (((bw (fun b => encC ((wD σ).1 b)) k) ||| 1 * 2 ^ k : Nat) : Int)), (0, vR 77)]) rfl ?_
          refine V.goto (pc := 43) 15 dX8_haveHeard_43 (by decide) ?_
          refine V.locs [2, 1, 0] (ls' := [(0, vR 77), (1, vI (((bw (fun b => encC ((wD σ).1 b)) k) ||| 1 * 2 ^ k : Nat) : Int)), (2, vI ((k + 1 : Nat) : Int))]) rfl ?_
          have e : bw (fun b => encC ((wD σ).1 b)) (k + 1) = (bw (fun b => encC ((wD σ).1 b)) k) ||| 1 * 2 ^ k := by rw [bwM_s, if_neg (by omega)]
          rw [← e]
          exact ih15 (k + 1) (by omega) (by omega)
        · skip
          refine V.iconst (pc := 31) (z := 0) dX8_haveHeard_31 rfl ⟨by decide, by decide⟩ ?_
          refine V.goto (pc := 32) 38 dX8_haveHeard_32 (by decide) ?_
          refine V.ior (pc := 38) ((((bw (fun b => encC ((wD σ).1 b)) k) ||| 0 : Nat) : Int)) dX8_haveHeard_38 (oN (bw (fun b => encC ((wD σ).1 b)) k) 0) (rI_n (by rw [Nat.or_zero]; omega)) ?_
          refine V.istore_n (pc := 39) (i := 1) dX8_haveHeard_39 rfl (by decide) (ls' := [(1, vI (((bw (fun b => encC ((wD σ).1 b)) k) ||| 0 : Nat) : Int)), (0, vR 77), (2, vI ((k : Nat) : Int))]) rfl ?_
          refine V.iinc (pc := 40) (r := ((k + 1 : Nat) : Int)) 2 dX8_haveHeard_40 rfl (w32_of (by omega) (by omega) (by omega)) (by decide) (ls' := [(2, vI ((k + 1 : Nat) : Int)), (1, vI (((bw (fun b => encC ((wD σ).1 b)) k) ||| 0 : Nat) : Int)), (0, vR 77)]) rfl ?_
          refine V.goto (pc := 43) 15 dX8_haveHeard_43 (by decide) ?_
          refine V.locs [2, 1, 0] (ls' := [(0, vR 77), (1, vI (((bw (fun b => encC ((wD σ).1 b)) k) ||| 0 : Nat) : Int)), (2, vI ((k + 1 : Nat) : Int))]) rfl ?_
          have e : bw (fun b => encC ((wD σ).1 b)) (k + 1) = (bw (fun b => encC ((wD σ).1 b)) k) ||| 0 := by rw [bwM_s, if_pos (by omega), Nat.or_zero]
          rw [← e]
          exact ih15 (k + 1) (by omega) (by omega)
  refine V.locs [2, 1, 0] (ls' := [(0, vR 77), (1, vI 0), (2, vI 0)]) rfl ?_
  exact lp15 _ 0 (by omega) (Nat.lt_succ_self _)

set_option maxRecDepth 100000 in
theorem c_X8_told (hi hl : HI) (σ : SG) (m : Nat) (g : Nat → Int) (im : Nat → Option SG) (hR : RMo hi hl (σ, m, g, im)) (w : Int) (Q : QT) (hq : ∀ hi' hl' : HI, FrM hi hl hi' hl' → RMo hi' hl' (σ, m, g, im) → Q (some (vI (aTold (σ, m, g, im) w))) KW hi' hl') : Con eX8_told [vR 77, vI w] KW hi hl Q := by
  refine Con.ofV (by decide +kernel) (Nat.le_of_ble_eq_true rfl) ?_
  show V eX8_told none KW 0 [(0, vR 77), (1, vI w)] [] hi hl 0 0 Q
  obtain ⟨hC, ⟨hm, hm2, hg5, hgr⟩, k0, k1, k2, k3⟩ := RM_o hR
  subst hg5
  have hwf := hC.1
  have hn16 := hwf.2.2.1
  have hbg := hwf.2.2.2.2.1
  refine V.iload_n (pc := 0) 1 dX8_told_0 rfl ?_
  refine V.i2l (pc := 1) dX8_told_1 ?_
  refine V.ldc2 (pc := 2) (z := 10) clX8_192 dX8_told_2 ⟨by decide, by decide⟩ ?_
  refine V.ldc2 (pc := 5) (z := 15) clX8_288 dX8_told_5 ⟨by decide, by decide⟩ ?_
  refine V.callS (pc := 8) (e1 := eX8_in) 3 [vL w, vL 10, vL 15] [] mfX8_in slX8_in mlX8_72 dX8_told_8 rfl rfl (Nat.le_of_ble_eq_true rfl) ⟨by decide, by decide, by decide, by decide⟩ ?_
  refine c_X8_in KW hi hl w 10 15 _ (fun hin1 => ?_) (fun hin1 => ?_)
  · skip
    refine V.qI (pc := 8) rfl rfl ?_
    refine V.if_eq (pc := 11) 24 dX8_told_11 (by decide) (fun hc => by exact absurd hc (by decide)) (fun h11 => ?_)
    obtain ⟨n, rfl⟩ : ∃ n : Nat, w = (n : Int) := ⟨w.toNat, by omega⟩
    refine V.aload_n (pc := 14) 0 dX8_told_14 rfl ?_
    refine V.gr (pc := 15) 8 4 80 flX8_16 dX8_told_15 (kS_77) (by decide) (by decide) rfl (kR_77_4) ?_
    refine V.iload_n (pc := 18) 1 dX8_told_18 rfl ?_
    refine V.bipush (pc := 19) (z := 10) dX8_told_19 (by decide +kernel) ⟨by decide, by decide⟩ ?_
    refine V.isub (pc := 21) ((((n - 10) : Nat) : Int)) dX8_told_21 (subN (a := n) (b := 10) (by omega) (by omega)) ?_
    refine V.ia (pc := 22) (len := 6) (n - 10) ((so σ (n - 10) : Nat) : Int) dX8_told_22 (kS_80) (rfl) (by omega) (hC.2.1 _ (by omega)) ?_
    refine V.iret (pc := 23) (z := ((so σ (n - 10) : Nat) : Int)) dX8_told_23 rfl ?_
    have hA : aTold (σ, m, hi 85, im) (n : Int) = (so σ (n - 10) : Nat) := by
      unfold aTold
      try dsimp only [gσ, gm, gg, gi]
      refine (if_pos (by first | omega | assumption)).trans ?_
      show ((so σ ((n : Int) - 10).toNat : Nat) : Int) = _
      rw [show ((n : Int) - 10).toNat = n - 10 by omega]
    rw [hA] at hq
    exact hq _ _ (by repeat (first | exact gr0 | refine gr1 (by decide) ?_ | refine gr2 (by decide) ?_)) hR
  · skip
    refine V.qI (pc := 8) rfl rfl ?_
    refine V.if_eq (pc := 11) 24 dX8_told_11 (by decide) (fun h11 => ?_) (fun hc => by exact absurd hc (by decide))
    refine V.iload_n (pc := 24) 1 dX8_told_24 rfl ?_
    refine V.i2l (pc := 25) dX8_told_25 ?_
    refine V.ldc2 (pc := 26) (z := 20) clX8_290 dX8_told_26 ⟨by decide, by decide⟩ ?_
    refine V.ldc2 (pc := 29) (z := 25) clX8_292 dX8_told_29 ⟨by decide, by decide⟩ ?_
    refine V.callS (pc := 32) (e1 := eX8_in) 3 [vL w, vL 20, vL 25] [] mfX8_in slX8_in mlX8_72 dX8_told_32 rfl rfl (Nat.le_of_ble_eq_true rfl) ⟨by decide, by decide, by decide, by decide⟩ ?_
    refine c_X8_in KW hi hl w 20 25 _ (fun hin2 => ?_) (fun hin2 => ?_)
    · skip
      refine V.qI (pc := 32) rfl rfl ?_
      refine V.if_eq (pc := 35) 68 dX8_told_35 (by decide) (fun hc => by exact absurd hc (by decide)) (fun h35 => ?_)
      obtain ⟨n, rfl⟩ : ∃ n : Nat, w = (n : Int) := ⟨w.toNat, by omega⟩
      refine V.aload_n (pc := 38) 0 dX8_told_38 rfl ?_
      refine V.gr (pc := 39) 8 10 84 flX8_28 dX8_told_39 (kS_77) (by decide) (by decide) rfl (kR_77_10) ?_
      refine V.iload_n (pc := 42) 1 dX8_told_42 rfl ?_
      refine V.bipush (pc := 43) (z := 20) dX8_told_43 (by decide +kernel) ⟨by decide, by decide⟩ ?_
      refine V.isub (pc := 45) ((((n - 20) : Nat) : Int)) dX8_told_45 (subN (a := n) (b := 20) (by omega) (by omega)) ?_
      refine V.ia (pc := 46) (len := 6) (n - 20) (encM (te σ (n - 20))) dX8_told_46 (kS_84) (rfl) (by omega) (hC.2.2.1 _ (by omega)) ?_
      refine V.if_ge (pc := 47) 55 dX8_told_47 (by decide) (fun h47 => ?_) (fun h47 => ?_)
      · obtain ⟨v, hv⟩ := encM_s (show 0 ≤ encM (te σ (n - 20)) by omega)
        have hvl := hwf.2.1 (n - 20) (by omega) v hv
        refine V.aload_n (pc := 55) 0 dX8_told_55 rfl ?_
        refine V.gr (pc := 56) 8 10 84 flX8_28 dX8_told_56 (kS_77) (by decide) (by decide) rfl (kR_77_10) ?_
        refine V.iload_n (pc := 59) 1 dX8_told_59 rfl ?_
        refine V.bipush (pc := 60) (z := 20) dX8_told_60 (by decide +kernel) ⟨by decide, by decide⟩ ?_
        refine V.isub (pc := 62) ((((n - 20) : Nat) : Int)) dX8_told_62 (subN (a := n) (b := 20) (by omega) (by omega)) ?_
        refine V.ia (pc := 63) (len := 6) (n - 20) ((v : Nat) : Int) dX8_told_63 (kS_84) (rfl) (by omega) ((hC.2.2.1 _ (by omega)).trans (by rw [hv]; rfl)) ?_
        refine V.callS (pc := 64) (e1 := eX8_wordsOf) 1 [vI ((v : Nat) : Int)] [] mfX8_wordsOf slX8_wordsOf mlX8_80 dX8_told_64 rfl rfl (Nat.le_of_ble_eq_true rfl) ⟨by decide, by decide, by decide, by decide⟩ ?_
        refine c_X8_wordsOf KW hi hl v (by omega) _ ?_
        refine V.qI (pc := 64) rfl rfl ?_
        refine V.iret (pc := 67) (z := ((L3 v : Nat) : Int)) dX8_told_67 rfl ?_
        have hA : aTold (σ, m, hi 85, im) (n : Int) = (L3 v : Nat) := by
          unfold aTold
          try dsimp only [gσ, gm, gg, gi]
          refine (if_neg (by first | omega | assumption)).trans ?_
          refine (if_pos (by first | omega | assumption)).trans ?_
          show wordO (encC (te σ ((n : Int) - 20).toNat)) (-1) = _
          rw [show ((n : Int) - 20).toNat = n - 20 by omega, hv]
          exact wordO_s.trans (wordS_len v)
        rw [hA] at hq
        exact hq _ _ (by repeat (first | exact gr0 | refine gr1 (by decide) ?_ | refine gr2 (by decide) ?_)) hR
      · have hv := encM_n (show ¬ 0 ≤ encM (te σ (n - 20)) by omega)
        refine V.bipush (pc := 50) (z := (-6)) dX8_told_50 (by decide +kernel) ⟨by decide, by decide⟩ ?_
        refine V.goto (pc := 52) 67 dX8_told_52 (by decide) ?_
        refine V.iret (pc := 67) (z := (-6)) dX8_told_67 rfl ?_
        have hA : aTold (σ, m, hi 85, im) (n : Int) = -6 := by
          unfold aTold
          try dsimp only [gσ, gm, gg, gi]
          refine (if_neg (by first | omega | assumption)).trans ?_
          refine (if_pos (by first | omega | assumption)).trans ?_
          show wordO (encC (te σ ((n : Int) - 20).toNat)) (-1) = _
          rw [show ((n : Int) - 20).toNat = n - 20 by omega, hv]; rfl
        rw [hA] at hq
        exact hq _ _ (by repeat (first | exact gr0 | refine gr1 (by decide) ?_ | refine gr2 (by decide) ?_)) hR
    · skip
      refine V.qI (pc := 32) rfl rfl ?_
      refine V.if_eq (pc := 35) 68 dX8_told_35 (by decide) (fun h35 => ?_) (fun hc => by exact absurd hc (by decide))
      refine V.iload_n (pc := 68) 1 dX8_told_68 rfl ?_
      by_cases hts69 : w < 0 ∨ 5 < w
      · refine V.tabOut (pc := 69) 141 dX8_told_69 hts69 (by decide) ?_
        refine V.bipush (pc := 141) (z := (-2)) dX8_told_141 (by decide +kernel) ⟨by decide, by decide⟩ ?_
        refine V.iret (pc := 143) (z := (-2)) dX8_told_143 rfl ?_
        have hA : aTold (σ, m, hi 85, im) w = -2 := by
          unfold aTold
          try dsimp only [gσ, gm, gg, gi]
          refine (if_neg (by first | omega | assumption)).trans ?_
          refine (if_neg (by first | omega | assumption)).trans ?_
          refine (if_neg (by first | omega | assumption)).trans ?_
          refine (if_neg (by first | omega | assumption)).trans ?_
          refine (if_neg (by first | omega | assumption)).trans ?_
          refine (if_neg (by first | omega | assumption)).trans ?_
          refine (if_neg (by first | omega | assumption)).trans ?_
          refine (if_neg (by first | omega | assumption)).trans ?_
          rfl
        rw [hA] at hq
        exact hq _ _ (by repeat (first | exact gr0 | refine gr1 (by decide) ?_ | refine gr2 (by decide) ?_)) hR
      · have htr69 : w = 0 ∨ w = 1 ∨ w = 2 ∨ w = 3 ∨ w = 4 ∨ w = 5 := by omega
        rcases htr69 with hc69 | hc69 | hc69 | hc69 | hc69 | hc69
        · refine V.tabIn (pc := 69) 0 108 dX8_told_69 (by omega) (by omega) rfl (by decide) ?_
          refine V.aload_n (pc := 108) 0 dX8_told_108 rfl ?_
          refine V.gi (pc := 109) 8 13 ((m : Nat) : Int) flX8_113 dX8_told_109 (kS_77) (by decide) (by decide) rfl (hm) ?_
          refine V.iret (pc := 112) (z := ((m : Nat) : Int)) dX8_told_112 rfl ?_
          have hA : aTold (σ, m, hi 85, im) w = (m : Nat) := by
            unfold aTold
            try dsimp only [gσ, gm, gg, gi]
            refine (if_neg (by first | omega | assumption)).trans ?_
            refine (if_neg (by first | omega | assumption)).trans ?_
            refine (if_pos (by first | omega | assumption)).trans ?_
            rfl
          rw [hA] at hq
          exact hq _ _ (by repeat (first | exact gr0 | refine gr1 (by decide) ?_ | refine gr2 (by decide) ?_)) hR
        · refine V.tabIn (pc := 69) 1 113 dX8_told_69 (by omega) (by omega) rfl (by decide) ?_
          refine V.aload_n (pc := 113) 0 dX8_told_113 rfl ?_
          refine V.gi (pc := 114) 8 8 ((nn σ : Nat) : Int) flX8_138 dX8_told_114 (kS_77) (by decide) (by decide) rfl (hC.2.2.2.1) ?_
          refine V.iret (pc := 117) (z := ((nn σ : Nat) : Int)) dX8_told_117 rfl ?_
          have hA : aTold (σ, m, hi 85, im) w = (nn σ : Nat) := by
            unfold aTold
            try dsimp only [gσ, gm, gg, gi]
            refine (if_neg (by first | omega | assumption)).trans ?_
            refine (if_neg (by first | omega | assumption)).trans ?_
            refine (if_neg (by first | omega | assumption)).trans ?_
            refine (if_pos (by first | omega | assumption)).trans ?_
            rfl
          rw [hA] at hq
          exact hq _ _ (by repeat (first | exact gr0 | refine gr1 (by decide) ?_ | refine gr2 (by decide) ?_)) hR
        · refine V.tabIn (pc := 69) 2 118 dX8_told_69 (by omega) (by omega) rfl (by decide) ?_
          refine V.aload_n (pc := 118) 0 dX8_told_118 rfl ?_
          refine V.gi (pc := 119) 8 9 ((bg σ : Nat) : Int) flX8_147 dX8_told_119 (kS_77) (by decide) (by decide) rfl (hC.2.2.2.2.2.1) ?_
          refine V.callS (pc := 122) (e1 := eX8_wordsOf) 1 [vI ((bg σ : Nat) : Int)] [] mfX8_wordsOf slX8_wordsOf mlX8_80 dX8_told_122 rfl rfl (Nat.le_of_ble_eq_true rfl) ⟨by decide, by decide, by decide, by decide⟩ ?_
          refine c_X8_wordsOf KW hi hl (bg σ) (by omega) _ ?_
          refine V.qI (pc := 122) rfl rfl ?_
          refine V.iret (pc := 125) (z := ((L3 (bg σ) : Nat) : Int)) dX8_told_125 rfl ?_
          have hA : aTold (σ, m, hi 85, im) w = (L3 (bg σ) : Nat) := by
            unfold aTold
            try dsimp only [gσ, gm, gg, gi]
            refine (if_neg (by first | omega | assumption)).trans ?_
            refine (if_neg (by first | omega | assumption)).trans ?_
            refine (if_neg (by first | omega | assumption)).trans ?_
            refine (if_neg (by first | omega | assumption)).trans ?_
            refine (if_pos (by first | omega | assumption)).trans ?_
            rfl
          rw [hA] at hq
          exact hq _ _ (by repeat (first | exact gr0 | refine gr1 (by decide) ?_ | refine gr2 (by decide) ?_)) hR
        · refine V.tabIn (pc := 69) 3 126 dX8_told_69 (by omega) (by omega) rfl (by decide) ?_
          refine V.aload_n (pc := 126) 0 dX8_told_126 rfl ?_
          refine V.gi (pc := 127) 8 11 ((ra σ : Nat) : Int) flX8_66 dX8_told_127 (kS_77) (by decide) (by decide) rfl (hC.2.2.2.2.2.2) ?_
          refine V.iret (pc := 130) (z := ((ra σ : Nat) : Int)) dX8_told_130 rfl ?_
          have hA : aTold (σ, m, hi 85, im) w = (ra σ : Nat) := by
            unfold aTold
            try dsimp only [gσ, gm, gg, gi]
            refine (if_neg (by first | omega | assumption)).trans ?_
            refine (if_neg (by first | omega | assumption)).trans ?_
            refine (if_neg (by first | omega | assumption)).trans ?_
            refine (if_neg (by first | omega | assumption)).trans ?_
            refine (if_neg (by first | omega | assumption)).trans ?_
            refine (if_pos (by first | omega | assumption)).trans ?_
            rfl
          rw [hA] at hq
          exact hq _ _ (by repeat (first | exact gr0 | refine gr1 (by decide) ?_ | refine gr2 (by decide) ?_)) hR
        · refine V.tabIn (pc := 69) 4 131 dX8_told_69 (by omega) (by omega) rfl (by decide) ?_
          refine V.aload_n (pc := 131) 0 dX8_told_131 rfl ?_
          refine V.callV (pc := 132) (e1 := eX8_testified) (o := 77) (c := 8) 0 [] [] mfX8_testified slX8_testified mlX8_294 dX8_told_132 (kS_77) (by decide) rfl rfl rfl (Nat.le_of_ble_eq_true rfl) ⟨by decide, by decide, by decide, by decide⟩ ?_
          refine c_X8_testified hi hl σ hC _ ?_
          refine V.qI (pc := 132) rfl rfl ?_
          refine V.iret (pc := 135) (z := ((twF σ : Nat) : Int)) dX8_told_135 rfl ?_
          have hA : aTold (σ, m, hi 85, im) w = (twF σ : Nat) := by
            unfold aTold
            try dsimp only [gσ, gm, gg, gi]
            refine (if_neg (by first | omega | assumption)).trans ?_
            refine (if_neg (by first | omega | assumption)).trans ?_
            refine (if_neg (by first | omega | assumption)).trans ?_
            refine (if_neg (by first | omega | assumption)).trans ?_
            refine (if_neg (by first | omega | assumption)).trans ?_
            refine (if_neg (by first | omega | assumption)).trans ?_
            refine (if_pos (by first | omega | assumption)).trans ?_
            rfl
          rw [hA] at hq
          exact hq _ _ (by repeat (first | exact gr0 | refine gr1 (by decide) ?_ | refine gr2 (by decide) ?_)) hR
        · refine V.tabIn (pc := 69) 5 136 dX8_told_69 (by omega) (by omega) rfl (by decide) ?_
          refine V.aload_n (pc := 136) 0 dX8_told_136 rfl ?_
          refine V.callV (pc := 137) (e1 := eX8_haveHeard) (o := 77) (c := 8) 0 [] [] mfX8_haveHeard slX8_haveHeard mlX8_297 dX8_told_137 (kS_77) (by decide) rfl rfl rfl (Nat.le_of_ble_eq_true rfl) ⟨by decide, by decide, by decide, by decide⟩ ?_
          refine c_X8_haveHeard hi hl σ hC _ (fun f77 f86 f87 f78 f79 hgd => ?_)
          refine V.qI (pc := 137) rfl rfl ?_
          refine V.hieq (hi' := (upR (upR (upR (upR (upR hi 79 f79) 78 f78) 87 f87) 86 f86) 77 f77)) ((upR_c ((upR_c ((upR_c ((upR_c r0).trans (rs (by decide) r0))).trans (rs (by decide) (rs (by decide) r0)))).trans (rs (by decide) (rs (by decide) (rs (by decide) r0))))).trans (rs (by decide) (rs (by decide) (rs (by decide) (rs (by decide) r0))))) ?_
          refine V.iret (pc := 140) (z := ((hrF σ : Nat) : Int)) dX8_told_140 rfl ?_
          have hA : aTold (σ, m, hi 85, im) w = (hrF σ : Nat) := by
            unfold aTold
            try dsimp only [gσ, gm, gg, gi]
            refine (if_neg (by first | omega | assumption)).trans ?_
            refine (if_neg (by first | omega | assumption)).trans ?_
            refine (if_neg (by first | omega | assumption)).trans ?_
            refine (if_neg (by first | omega | assumption)).trans ?_
            refine (if_neg (by first | omega | assumption)).trans ?_
            refine (if_neg (by first | omega | assumption)).trans ?_
            refine (if_neg (by first | omega | assumption)).trans ?_
            refine (if_pos (by first | omega | assumption)).trans ?_
            rfl
          rw [hA] at hq
          exact hq _ _ (by repeat (first | exact gr0 | refine gr1 (by decide) ?_ | refine gr2 (by decide) ?_)) (RM_up (hl := hl) hC hm hm2 hgr k0 k1 k2 k3 (hgd 8 (by decide) (by decide) (by decide)) (hgd 9 (by decide) (by decide) (by decide)) (hgd 11 (by decide) (by decide) (by decide)) (hgd 13 (by decide) (by decide) (by decide)) rfl rfl rfl rfl rfl rfl rfl rfl)

