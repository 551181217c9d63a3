set_option maxRecDepth 100000 in
theorem c_X8_sort (hi hl : HI) (σ : SG) (m : Nat) (g : Nat → Int) (im : Nat → Option SG) (hR : RMo hi hl (σ, m, g, im)) (b : Int) (v : Int) (Q : QT) (hq : ∀ hi' hl' : HI, FrM hi hl hi' hl' → RMo hi' hl' (nSort (σ, m, g, im) b v) → Q (some (vI (aSort (σ, m, g, im) b v))) KW hi' hl') : Con eX8_sort [vR 77, vI b, vI v] KW hi hl Q := by
  refine Con.ofV (by decide +kernel) (Nat.le_of_ble_eq_true rfl) ?_
  show V eX8_sort none KW 0 [(0, vR 77), (1, vI b), (2, vI v)] [] hi hl 0 0 Q
  refine V.hieq (hi' := (upR hi 80 (hi 80))) (by rw [upR_id]) ?_
  obtain ⟨hC, ⟨hm, hm2, hg5, hgr⟩, k0, k1, k2, k3⟩ := RM_o hR
  subst hg5
  have hwf := hC.1
  have hn16 := hwf.2.2.1
  have hbg := hwf.2.2.2.2.1
  refine V.iload_n (pc := 0) 1 dX8_sort_0 rfl ?_
  refine V.callS (pc := 1) (e1 := eX8_isBird) 1 [vI b] [] mfX8_isBird slX8_isBird mlX8_103 dX8_sort_1 rfl rfl (Nat.le_of_ble_eq_true rfl) ⟨by decide, by decide, by decide, by decide⟩ ?_
  refine c_X8_isBird KW (upR hi 80 (hi 80)) hl b _ (fun hb => ?_) (fun hb => ?_)
  · skip
    refine V.qI (pc := 1) rfl rfl ?_
    refine V.if_ne (pc := 4) 9 dX8_sort_4 (by decide) (fun h4 => ?_) (fun hc => by exact absurd hc (by decide))
    refine V.iload_n (pc := 9) 2 dX8_sort_9 rfl ?_
    refine V.i2l (pc := 10) dX8_sort_10 ?_
    refine V.lconst (pc := 11) (z := 0) dX8_sort_11 (by decide +kernel) ⟨by decide, by decide⟩ ?_
    refine V.ldc2 (pc := 12) (z := 4) clX8_107 dX8_sort_12 ⟨by decide, by decide⟩ ?_
    refine V.callS (pc := 15) (e1 := eX8_in) 3 [vL v, vL 0, vL 4] [] mfX8_in slX8_in mlX8_72 dX8_sort_15 rfl rfl (Nat.le_of_ble_eq_true rfl) ⟨by decide, by decide, by decide, by decide⟩ ?_
    refine c_X8_in KW (upR hi 80 (hi 80)) hl v 0 4 _ (fun hinv => ?_) (fun hinv => ?_)
    · skip
      refine V.qI (pc := 15) rfl rfl ?_
      refine V.if_ne (pc := 18) 24 dX8_sort_18 (by decide) (fun h18 => ?_) (fun hc => by exact absurd hc (by decide))
      obtain ⟨n, rfl⟩ : ∃ n : Nat, b = (n : Int) := ⟨b.toNat, by omega⟩
      obtain ⟨w, rfl⟩ : ∃ w : Nat, v = (w : Int) := ⟨v.toNat, by omega⟩
      refine V.aload_n (pc := 24) 0 dX8_sort_24 rfl ?_
      refine V.gr (pc := 25) 8 4 80 flX8_16 dX8_sort_25 (kS_77) (by decide) (by decide) rfl (kR_77_4) ?_
      refine V.iload_n (pc := 28) 1 dX8_sort_28 rfl ?_
      refine V.ia (pc := 29) (len := 6) n ((so σ n : Nat) : Int) dX8_sort_29 (kS_80) (rfl) (by omega) (hC.2.1 n (by omega)) ?_
      refine V.istore_n (pc := 30) (i := 3) dX8_sort_30 rfl (by decide) (ls' := [(3, vI ((so σ n : Nat) : Int)), (0, vR 77), (1, vI ((n : Nat) : Int)), (2, vI ((w : Nat) : Int))]) rfl ?_
      refine V.aload_n (pc := 31) 1 dX8_sort_31 rfl ?_
      refine V.gr (pc := 32) 8 4 80 flX8_16 dX8_sort_32 (kS_77) (by decide) (by decide) rfl (kR_77_4) ?_
      refine V.iload_n (pc := 35) 2 dX8_sort_35 rfl ?_
      refine V.iload_n (pc := 36) 3 dX8_sort_36 rfl ?_
      refine V.is (pc := 37) (len := 6) (hi' := (upR hi 80 (updF (hi 80) n ((w : Nat) : Int)))) n dX8_sort_37 (kS_80) (rfl) (by omega) u1 ?_
      refine V.iload_n (pc := 38) 0 dX8_sort_38 rfl ?_
      refine V.iret (pc := 39) (z := ((so σ n : Nat) : Int)) dX8_sort_39 rfl ?_
      have hA : aSort (σ, m, hi 85, im) (n : Int) (w : Int) = (so σ n : Nat) := by
        unfold aSort
        try dsimp only [gσ, gm, gg, gi]
        refine (if_neg (by first | omega | assumption)).trans ?_
        refine (if_neg (by first | omega | assumption)).trans ?_
        rfl
      rw [hA] at hq
      have hN : nSort (σ, m, hi 85, im) (n : Int) (w : Int) = ((updF σ.1 n w, σ.2), m, hi 85, im) := by
        unfold nSort
        try dsimp only [gσ, gm, gg, gi]
        refine (if_pos (by first | omega | assumption)).trans ?_
        rfl
      rw [hN] at hq
      exact hq _ _ (by repeat (first | exact gr0 | refine gr1 (by decide) ?_ | refine gr2 (by decide) ?_)) (RM_i (MR_so hC (by omega) (by omega)) (hm) (hm2) (rfl) (hgr) (k0) (k1) (k2) (k3))
    · skip
      refine V.qI (pc := 15) rfl rfl ?_
      refine V.if_ne (pc := 18) 24 dX8_sort_18 (by decide) (fun hc => by exact absurd hc (by decide)) (fun h18 => ?_)
      refine V.bipush (pc := 21) (z := (-2)) dX8_sort_21 (by decide +kernel) ⟨by decide, by decide⟩ ?_
      refine V.iret (pc := 23) (z := (-2)) dX8_sort_23 rfl ?_
      rw [upR_id]
      have hA : aSort (σ, m, hi 85, im) b v = -2 := by
        unfold aSort
        try dsimp only [gσ, gm, gg, gi]
        refine (if_neg (by first | omega | assumption)).trans ?_
        refine (if_pos (by first | omega | assumption)).trans ?_
        rfl
      rw [hA] at hq
      have hN : nSort (σ, m, hi 85, im) b v = (σ, m, hi 85, im) := by
        unfold nSort
        try dsimp only [gσ, gm, gg, gi]
        refine (if_neg (by first | omega | assumption)).trans ?_
        rfl
      rw [hN] at hq
      exact hq _ _ (by repeat (first | exact gr0 | refine gr1 (by decide) ?_ | refine gr2 (by decide) ?_)) hR
  · skip
    refine V.qI (pc := 1) rfl rfl ?_
    refine V.if_ne (pc := 4) 9 dX8_sort_4 (by decide) (fun hc => by exact absurd hc (by decide)) (fun h4 => ?_)
    refine V.iconst (pc := 7) (z := (-1)) dX8_sort_7 rfl ⟨by decide, by decide⟩ ?_
    refine V.iret (pc := 8) (z := (-1)) dX8_sort_8 rfl ?_
    rw [upR_id]
    have hA : aSort (σ, m, hi 85, im) b v = -1 := by
      unfold aSort
      try dsimp only [gσ, gm, gg, gi]
      refine (if_pos (by first | omega | assumption)).trans ?_
      rfl
    rw [hA] at hq
    have hN : nSort (σ, m, hi 85, im) b v = (σ, m, hi 85, im) := by
      unfold nSort
      try dsimp only [gσ, gm, gg, gi]
      refine (if_neg (by first | omega | assumption)).trans ?_
      rfl
    rw [hN] at hq
    exact hq _ _ (by repeat (first | exact gr0 | refine gr1 (by decide) ?_ | refine gr2 (by decide) ?_)) hR

set_option maxRecDepth 100000 in
theorem c_X8_say (hi hl : HI) (σ : SG) (m : Nat) (g : Nat → Int) (im : Nat → Option SG) (hR : RMo hi hl (σ, m, g, im)) (s : Int) (Q : QT) (hq : ∀ hi' hl' : HI, FrM hi hl hi' hl' → RMo hi' hl' (nSay (σ, m, g, im) s) → Q (some (vI (aSay (σ, m, g, im) s))) KW hi' hl') : Con eX8_say [vR 77, vI s] KW hi hl Q := by
  refine Con.ofV (by decide +kernel) (Nat.le_of_ble_eq_true rfl) ?_
  show V eX8_say none KW 0 [(0, vR 77), (1, vI s)] [] hi hl 0 0 Q
  refine V.hieq (hi' := (upR (upR hi 77 (hi 77)) 85 (hi 85))) (by rw [upR_id, upR_id]) ?_
  obtain ⟨hC, ⟨hm, hm2, hg5, hgr⟩, k0, k1, k2, k3⟩ := RM_o hR
  subst hg5
  have hwf := hC.1
  have hn16 := hwf.2.2.1
  have hbg := hwf.2.2.2.2.1
  refine V.iload_n (pc := 0) 1 dX8_say_0 rfl ?_
  refine V.i2l (pc := 1) dX8_say_1 ?_
  refine V.ldc2 (pc := 2) (z := 33) clX8_109 dX8_say_2 ⟨by decide, by decide⟩ ?_
  refine V.ldc2 (pc := 5) (z := 126) clX8_111 dX8_say_5 ⟨by decide, by decide⟩ ?_
  refine V.callS (pc := 8) (e1 := eX8_in) 3 [vL s, vL 33, vL 126] [] mfX8_in slX8_in mlX8_72 dX8_say_8 rfl rfl (Nat.le_of_ble_eq_true rfl) ⟨by decide, by decide, by decide, by decide⟩ ?_
  refine c_X8_in KW (upR (upR hi 77 (hi 77)) 85 (hi 85)) hl s 33 126 _ (fun hin => ?_) (fun hin => ?_)
  · skip
    refine V.qI (pc := 8) rfl rfl ?_
    refine V.if_ne (pc := 11) 17 dX8_say_11 (by decide) (fun h11 => ?_) (fun hc => by exact absurd hc (by decide))
    refine V.aload_n (pc := 17) 0 dX8_say_17 rfl ?_
    refine V.gi (pc := 18) 8 13 ((m : Nat) : Int) flX8_113 dX8_say_18 (kS_77) (by decide) (by decide) rfl (hm) ?_
    refine V.bipush (pc := 21) (z := 48) dX8_say_21 (by decide +kernel) ⟨by decide, by decide⟩ ?_
    refine V.icmp_ne (pc := 23) 29 dX8_say_23 (by decide) (fun h23 => ?_) (fun h23 => ?_)
    · skip
      refine V.aload_n (pc := 29) 0 dX8_say_29 rfl ?_
      refine V.gr (pc := 30) 8 12 85 flX8_31 dX8_say_30 (kS_77) (by decide) (by decide) rfl (kR_77_12) ?_
      refine V.aload_n (pc := 33) 0 dX8_say_33 rfl ?_
      refine V.gi (pc := 34) 8 13 ((m : Nat) : Int) flX8_113 dX8_say_34 (kS_77) (by decide) (by decide) rfl (hm) ?_
      refine V.iload_n (pc := 37) 1 dX8_say_37 rfl ?_
      refine V.is (pc := 38) (len := 48) (hi' := (upR (upR hi 77 (hi 77)) 85 (updF (hi 85) m s))) m dX8_say_38 (kS_85) (rfl) (by omega) u1 ?_
      refine V.aload_n (pc := 39) 0 dX8_say_39 rfl ?_
      refine V.dup (pc := 40) dX8_say_40 rfl ?_
      refine V.gi (pc := 41) 8 13 ((m : Nat) : Int) flX8_113 dX8_say_41 (kS_77) (by decide) (by decide) rfl (hm) ?_
      refine V.iconst (pc := 44) (z := 1) dX8_say_44 rfl ⟨by decide, by decide⟩ ?_
      refine V.iadd (pc := 45) ((((m + 1) : Nat) : Int)) dX8_say_45 (addN (a := m) (b := 1) (by omega)) ?_
      refine V.pi (pc := 46) (hi' := (upR (upR hi 77 (updF (hi 77) 13 (((m + 1) : Nat) : Int))) 85 (updF (hi 85) m s))) 8 13 flX8_113 dX8_say_46 (kS_77) (by decide) (by decide) rfl rfl (us (by decide) u1) ?_
      refine V.aload_n (pc := 49) 0 dX8_say_49 rfl ?_
      refine V.gi (pc := 50) 8 13 (((m + 1) : Nat) : Int) flX8_113 dX8_say_50 (kS_77) (by decide) (by decide) rfl (rfl) ?_
      refine V.iret (pc := 53) (z := (((m + 1) : Nat) : Int)) dX8_say_53 rfl ?_
      have hA : aSay (σ, m, hi 85, im) s = ((m + 1 : Nat) : Int) := by
        unfold aSay
        try dsimp only [gσ, gm, gg, gi]
        refine (if_neg (by first | omega | assumption)).trans ?_
        refine (if_neg (by first | omega | assumption)).trans ?_
        rfl
      rw [hA] at hq
      have hN : nSay (σ, m, hi 85, im) s = (σ, m + 1, updF (hi 85) m s, im) := by
        unfold nSay
        try dsimp only [gσ, gm, gg, gi]
        refine (if_pos (by first | omega | assumption)).trans ?_
        rfl
      rw [hN] at hq
      exact hq _ _ (by repeat (first | exact gr0 | refine gr1 (by decide) ?_ | refine gr2 (by decide) ?_)) (RM_i (MR_up hC rfl rfl rfl rfl rfl rfl rfl rfl) (by show updF (hi 77) 13 ((m + 1 : Nat) : Int) 13 = _; exact updF_s) (by omega) (rfl) (fun i hi' => by by_cases e : i = m; { subst e; show 33 ≤ updF (hi 85) i s i ∧ updF (hi 85) i s i ≤ 126; rw [updF_s]; omega }; { show 33 ≤ updF (hi 85) m s i ∧ updF (hi 85) m s i ≤ 126; rw [updF_n e]; exact hgr i (by omega) }) (k0) (k1) (k2) (k3))
    · skip
      refine V.bipush (pc := 26) (z := (-4)) dX8_say_26 (by decide +kernel) ⟨by decide, by decide⟩ ?_
      refine V.iret (pc := 28) (z := (-4)) dX8_say_28 rfl ?_
      rw [upR_id, upR_id]
      have hA : aSay (σ, m, hi 85, im) s = -4 := by
        unfold aSay
        try dsimp only [gσ, gm, gg, gi]
        refine (if_neg (by first | omega | assumption)).trans ?_
        refine (if_pos (by first | omega | assumption)).trans ?_
        rfl
      rw [hA] at hq
      have hN : nSay (σ, m, hi 85, im) s = (σ, m, hi 85, im) := by
        unfold nSay
        try dsimp only [gσ, gm, gg, gi]
        refine (if_neg (by first | omega | assumption)).trans ?_
        rfl
      rw [hN] at hq
      exact hq _ _ (by repeat (first | exact gr0 | refine gr1 (by decide) ?_ | refine gr2 (by decide) ?_)) hR
  · skip
    refine V.qI (pc := 8) rfl rfl ?_
    refine V.if_ne (pc := 11) 17 dX8_say_11 (by decide) (fun hc => by exact absurd hc (by decide)) (fun h11 => ?_)
    refine V.bipush (pc := 14) (z := (-2)) dX8_say_14 (by decide +kernel) ⟨by decide, by decide⟩ ?_
    refine V.iret (pc := 16) (z := (-2)) dX8_say_16 rfl ?_
    rw [upR_id, upR_id]
    have hA : aSay (σ, m, hi 85, im) s = -2 := by
      unfold aSay
      try dsimp only [gσ, gm, gg, gi]
      refine (if_pos (by first | omega | assumption)).trans ?_
      rfl
    rw [hA] at hq
    have hN : nSay (σ, m, hi 85, im) s = (σ, m, hi 85, im) := by
      unfold nSay
      try dsimp only [gσ, gm, gg, gi]
      refine (if_neg (by first | omega | assumption)).trans ?_
      rfl
    rw [hN] at hq
    exact hq _ _ (by repeat (first | exact gr0 | refine gr1 (by decide) ?_ | refine gr2 (by decide) ?_)) hR

set_option maxRecDepth 100000 in
theorem c_X8_wipe (hi hl : HI) (σ : SG) (m : Nat) (g : Nat → Int) (im : Nat → Option SG) (hR : RMo hi hl (σ, m, g, im))  (Q : QT) (hq : ∀ hi' hl' : HI, FrM hi hl hi' hl' → RMo hi' hl' (wipeG (σ, m, g, im) ) → Q (some (vI (aWipe (σ, m, g, im) ))) KW hi' hl') : Con eX8_wipe [vR 77] KW hi hl Q := by
  refine Con.ofV (by decide +kernel) (Nat.le_of_ble_eq_true rfl) ?_
  show V eX8_wipe none KW 0 [(0, vR 77)] [] hi hl 0 0 Q
  refine V.hieq (hi' := (upR hi 77 (hi 77))) (by rw [upR_id]) ?_
  obtain ⟨hC, ⟨hm, hm2, hg5, hgr⟩, k0, k1, k2, k3⟩ := RM_o hR
  subst hg5
  have hwf := hC.1
  have hn16 := hwf.2.2.1
  have hbg := hwf.2.2.2.2.1
  refine V.aload_n (pc := 0) 0 dX8_wipe_0 rfl ?_
  refine V.gi (pc := 1) 8 13 ((m : Nat) : Int) flX8_113 dX8_wipe_1 (kS_77) (by decide) (by decide) rfl (hm) ?_
  refine V.istore_n (pc := 4) (i := 1) dX8_wipe_4 rfl (by decide) (ls' := [(1, vI ((m : Nat) : Int)), (0, vR 77)]) rfl ?_
  refine V.aload_n (pc := 5) 1 dX8_wipe_5 rfl ?_
  refine V.iconst (pc := 6) (z := 0) dX8_wipe_6 rfl ⟨by decide, by decide⟩ ?_
  refine V.pi (pc := 7) (hi' := (upR hi 77 (updF (hi 77) 13 0))) 8 13 flX8_113 dX8_wipe_7 (kS_77) (by decide) (by decide) rfl rfl u1 ?_
  refine V.iload_n (pc := 10) 0 dX8_wipe_10 rfl ?_
  refine V.iret (pc := 11) (z := ((m : Nat) : Int)) dX8_wipe_11 rfl ?_
  exact hq _ _ (by repeat (first | exact gr0 | refine gr1 (by decide) ?_ | refine gr2 (by decide) ?_)) (RM_i (MR_up hC rfl rfl rfl rfl rfl rfl rfl rfl) (by show updF (hi 77) 13 0 13 = _; exact updF_s) (by omega) (rfl) (fun i hi' => absurd hi' (Nat.not_lt_zero i)) (k0) (k1) (k2) (k3))

set_option maxRecDepth 100000 in
theorem c_X8_fault (hi hl : HI) (σ : SG) (m : Nat) (g : Nat → Int) (im : Nat → Option SG) (hR : RMo hi hl (σ, m, g, im)) (w : Int) (Q : QT) (hq : ∀ hi' hl' : HI, FrM hi hl hi' hl' → RMo hi' hl' (σ, m, g, im) → Q (some (vI (aFault (σ, m, g, im) w))) KW hi' hl') : Con eX8_fault [vR 77, vI w] KW hi hl Q := by
  refine Con.ofV (by decide +kernel) (Nat.le_of_ble_eq_true rfl) ?_
  show V eX8_fault none KW 0 [(0, vR 77), (1, vI w)] [] hi hl 0 0 Q
  obtain ⟨hC, ⟨hm, hm2, hg5, hgr⟩, k0, k1, k2, k3⟩ := RM_o hR
  subst hg5
  have hwf := hC.1
  have hn16 := hwf.2.2.1
  have hbg := hwf.2.2.2.2.1
  refine V.iload_n (pc := 0) 1 dX8_fault_0 rfl ?_
  refine V.if_ne (pc := 1) 11 dX8_fault_1 (by decide) (fun h1 => ?_) (fun h1 => ?_)
  · skip
    refine V.iload_n (pc := 11) 1 dX8_fault_11 rfl ?_
    refine V.iconst (pc := 12) (z := 1) dX8_fault_12 rfl ⟨by decide, by decide⟩ ?_
    refine V.icmp_ne (pc := 13) 23 dX8_fault_13 (by decide) (fun h13 => ?_) (fun h13 => ?_)
    · skip
      refine V.bipush (pc := 23) (z := (-2)) dX8_fault_23 (by decide +kernel) ⟨by decide, by decide⟩ ?_
      refine V.iret (pc := 25) (z := (-2)) dX8_fault_25 rfl ?_
      have hA : aFault (σ, m, hi 85, im) w = -2 := by
        unfold aFault
        try dsimp only [gσ, gm, gg, gi]
        refine (if_neg (by first | omega | assumption)).trans ?_
        refine (if_neg (by first | omega | assumption)).trans ?_
        rfl
      rw [hA] at hq
      exact hq _ _ (by repeat (first | exact gr0 | refine gr1 (by decide) ?_ | refine gr2 (by decide) ?_)) hR
    · skip
      refine V.aload_n (pc := 16) 0 dX8_fault_16 rfl ?_
      refine V.callV (pc := 17) (e1 := eX8_faultOfSaying) (o := 77) (c := 8) 0 [] [] mfX8_faultOfSaying slX8_faultOfSaying mlX8_135 dX8_fault_17 (kS_77) (by decide) rfl rfl rfl (Nat.le_of_ble_eq_true rfl) ⟨by decide, by decide, by decide, by decide⟩ ?_
      refine c_X8_faultOfSaying hi hl m hm hm2 _ ?_
      refine V.qI (pc := 17) rfl rfl ?_
      refine V.goto (pc := 20) 25 dX8_fault_20 (by decide) ?_
      refine V.iret (pc := 25) (z := (sayF (hi 85) m)) dX8_fault_25 rfl ?_
      have hA : aFault (σ, m, hi 85, im) w = sayF (hi 85) m := by
        unfold aFault
        try dsimp only [gσ, gm, gg, gi]
        refine (if_neg (by first | omega | assumption)).trans ?_
        refine (if_pos (by first | omega | assumption)).trans ?_
        rfl
      rw [hA] at hq
      exact hq _ _ (by repeat (first | exact gr0 | refine gr1 (by decide) ?_ | refine gr2 (by decide) ?_)) hR
  · skip
    refine V.aload_n (pc := 4) 0 dX8_fault_4 rfl ?_
    refine V.callV (pc := 5) (e1 := eX8_faultOfDays) (o := 77) (c := 8) 0 [] [] mfX8_faultOfDays slX8_faultOfDays mlX8_131 dX8_fault_5 (kS_77) (by decide) rfl rfl rfl (Nat.le_of_ble_eq_true rfl) ⟨by decide, by decide, by decide, by decide⟩ ?_
    refine c_X8_faultOfDays hi hl m hm hm2 hgr _ ?_
    refine V.qI (pc := 5) rfl rfl ?_
    refine V.goto (pc := 8) 25 dX8_fault_8 (by decide) ?_
    refine V.iret (pc := 25) (z := (dayF (hi 85) m)) dX8_fault_25 rfl ?_
    have hA : aFault (σ, m, hi 85, im) w = dayF (hi 85) m := by
      unfold aFault
      try dsimp only [gσ, gm, gg, gi]
      refine (if_pos (by first | omega | assumption)).trans ?_
      rfl
    rw [hA] at hq
    exact hq _ _ (by repeat (first | exact gr0 | refine gr1 (by decide) ?_ | refine gr2 (by decide) ?_)) hR

set_option maxRecDepth 100000 in
theorem c_X8_slips (hi hl : HI) (σ : SG) (m : Nat) (g : Nat → Int) (im : Nat → Option SG) (hR : RMo hi hl (σ, m, g, im)) (s : Int) (i : Int) (Q : QT) (hq : ∀ hi' hl' : HI, FrM hi hl hi' hl' → RMo hi' hl' (σ, m, g, im) → Q (some (vI (aSlips (σ, m, g, im) s i))) KW hi' hl') : Con eX8_slips [vR 77, vI s, vI i] KW hi hl Q := by
  refine Con.ofV (by decide +kernel) (Nat.le_of_ble_eq_true rfl) ?_
  show V eX8_slips none KW 0 [(0, vR 77), (1, vI s), (2, vI i)] [] hi hl 0 0 Q
  obtain ⟨hC, ⟨hm, hm2, hg5, hgr⟩, k0, k1, k2, k3⟩ := RM_o hR
  subst hg5
  have hwf := hC.1
  have hn16 := hwf.2.2.1
  have hbg := hwf.2.2.2.2.1
  have hsr := sayF_rng (hi 85) m
  
  refine V.iload_n (pc := 0) 1 dX8_slips_0 rfl ?_
  refine V.i2l (pc := 1) dX8_slips_1 ?_
  refine V.lconst (pc := 2) (z := 0) dX8_slips_2 (by decide +kernel) ⟨by decide, by decide⟩ ?_
  refine V.ldc2 (pc := 3) (z := 4) clX8_107 dX8_slips_3 ⟨by decide, by decide⟩ ?_
  refine V.callS (pc := 6) (e1 := eX8_in) 3 [vL s, vL 0, vL 4] [] mfX8_in slX8_in mlX8_72 dX8_slips_6 rfl rfl (Nat.le_of_ble_eq_true rfl) ⟨by decide, by decide, by decide, by decide⟩ ?_
  refine c_X8_in KW hi hl s 0 4 _ (fun hin => ?_) (fun hin => ?_)
  · skip
    refine V.qI (pc := 6) rfl rfl ?_
    refine V.if_ne (pc := 9) 15 dX8_slips_9 (by decide) (fun h9 => ?_) (fun hc => by exact absurd hc (by decide))
    obtain ⟨n, rfl⟩ : ∃ n : Nat, s = (n : Int) := ⟨s.toNat, by omega⟩
    refine V.aload_n (pc := 15) 0 dX8_slips_15 rfl ?_
    refine V.callV (pc := 16) (e1 := eX8_faultOfSaying) (o := 77) (c := 8) 0 [] [] mfX8_faultOfSaying slX8_faultOfSaying mlX8_135 dX8_slips_16 (kS_77) (by decide) rfl rfl rfl (Nat.le_of_ble_eq_true rfl) ⟨by decide, by decide, by decide, by decide⟩ ?_
    refine c_X8_faultOfSaying hi hl m hm hm2 _ ?_
    refine V.qI (pc := 16) rfl rfl ?_
    refine V.if_lt (pc := 19) 25 dX8_slips_19 (by decide) (fun h19 => ?_) (fun h19 => ?_)
    · have hsf : sayF (hi 85) m = -6 := by omega
      have hpv : padV (σ, m, hi 85, im) = (((f3 m + sayV (hi 85) m) : Nat) : Int) := padV_y hsf
      have hsl := padS_lt hsf
      refine V.aload_n (pc := 25) 0 dX8_slips_25 rfl ?_
      refine V.iload_n (pc := 26) 1 dX8_slips_26 rfl ?_
      refine V.aload_n (pc := 27) 0 dX8_slips_27 rfl ?_
      refine V.callV (pc := 28) (e1 := eX8_padSaying) (o := 77) (c := 8) 0 [] [vI ((n : Nat) : Int), vR 77] mfX8_padSaying slX8_padSaying mlX8_141 dX8_slips_28 (kS_77) (by decide) rfl rfl rfl (Nat.le_of_ble_eq_true rfl) ⟨by decide, by decide, by decide, by decide⟩ ?_
      refine c_X8_padSaying hi hl m hm hm2 hsf _ ?_
      refine V.qI (pc := 28) rfl rfl ?_
      refine V.callV (pc := 31) (e1 := eX8_findSlips) (o := 77) (c := 8) 2 [vI ((n : Nat) : Int), vI ((f3 m + sayV (hi 85) m : Nat) : Int)] [] mfX8_findSlips slX8_findSlips mlX8_144 dX8_slips_31 (kS_77) (by decide) rfl rfl rfl (Nat.le_of_ble_eq_true rfl) ⟨by decide, by decide, by decide, by decide⟩ ?_
      refine c_X8_findSlips hi hl n (f3 m + sayV (hi 85) m) (by omega) (by omega) _ (fun fs gs gw hs1 hs2 hs3 => ?_)
      have hs1 : ∀ j, j ≠ 1 → j ≠ 3 → fs j = (hi 77) j := hs1
      refine V.qV (pc := 31) rfl rfl ?_
      refine V.hieq (hi' := (upR (upR (upR hi 79 gs) 78 gw) 77 fs)) ((upR_c ((upR_c r0).trans (rs (by decide) r0))).trans (rs (by decide) (rs (by decide) r0))) ?_
      refine V.iload_n (pc := 34) 2 dX8_slips_34 rfl ?_
      refine V.if_ne (pc := 35) 45 dX8_slips_35 (by decide) (fun h35 => ?_) (fun h35 => ?_)
      · skip
        refine V.iload_n (pc := 45) 2 dX8_slips_45 rfl ?_
        refine V.i2l (pc := 46) dX8_slips_46 ?_
        refine V.lconst (pc := 47) (z := 1) dX8_slips_47 (by decide +kernel) ⟨by decide, by decide⟩ ?_
        refine V.aload_n (pc := 48) 0 dX8_slips_48 rfl ?_
        refine V.gi (pc := 49) 8 3 ((slN n (f3 m + sayV (hi 85) m) : Nat) : Int) flX8_90 dX8_slips_49 (kS_77) (by decide) (by decide) rfl (hs2) ?_
        refine V.i2l (pc := 52) dX8_slips_52 ?_
        refine V.callS (pc := 53) (e1 := eX8_in) 3 [vL i, vL 1, vL ((slN n (f3 m + sayV (hi 85) m) : Nat) : Int)] [] mfX8_in slX8_in mlX8_72 dX8_slips_53 rfl rfl (Nat.le_of_ble_eq_true rfl) ⟨by decide, by decide, by decide, by decide⟩ ?_
        refine c_X8_in KW (upR (upR (upR hi 79 gs) 78 gw) 77 fs) hl i 1 ((slN n (f3 m + sayV (hi 85) m) : Nat) : Int) _ (fun hini => ?_) (fun hini => ?_)
        · skip
          refine V.qI (pc := 53) rfl rfl ?_
          refine V.if_eq (pc := 56) 73 dX8_slips_56 (by decide) (fun hc => by exact absurd hc (by decide)) (fun h56 => ?_)
          obtain ⟨j, rfl⟩ : ∃ j : Nat, i = (j : Int) := ⟨i.toNat, by omega⟩
          refine V.aload_n (pc := 59) 0 dX8_slips_59 rfl ?_
          refine V.gr (pc := 60) 8 2 79 flX8_13 dX8_slips_60 (kS_77) (by decide) (by decide) rfl (kR_77_2) ?_
          refine V.iload_n (pc := 63) 2 dX8_slips_63 rfl ?_
          refine V.iconst (pc := 64) (z := 1) dX8_slips_64 rfl ⟨by decide, by decide⟩ ?_
          refine V.isub (pc := 65) ((((j - 1) : Nat) : Int)) dX8_slips_65 (subN (a := j) (b := 1) (by omega) (by have := slN_15 (s := n) (by omega) hsl; omega)) ?_
          refine V.ia (pc := 66) (len := 40) (j - 1) ((nth n (f3 m + sayV (hi 85) m) j : Nat) : Int) dX8_slips_66 (kS_79) (by omega) (by have := slN_15 (s := n) (by omega) hsl; omega) (by show gs (j - 1) = _; rw [nth_in (by omega)]; exact hs3 _ (by omega)) ?_
          have hnl := nth_lt (n := j) (show n ≤ 4 by omega) hsl
          refine V.callS (pc := 67) (e1 := eX8_wordsOf) 1 [vI ((nth n (f3 m + sayV (hi 85) m) j : Nat) : Int)] [] mfX8_wordsOf slX8_wordsOf mlX8_80 dX8_slips_67 rfl rfl (Nat.le_of_ble_eq_true rfl) ⟨by decide, by decide, by decide, by decide⟩ ?_
          refine c_X8_wordsOf KW (upR (upR (upR hi 79 gs) 78 gw) 77 fs) hl (nth n (f3 m + sayV (hi 85) m) j) (by omega) _ ?_
          refine V.qI (pc := 67) rfl rfl ?_
          refine V.goto (pc := 70) 75 dX8_slips_70 (by decide) ?_
          refine V.iret (pc := 75) (z := ((L3 (nth n (f3 m + sayV (hi 85) m) j) : Nat) : Int)) dX8_slips_75 rfl ?_
          have hA : aSlips (σ, m, hi 85, im) (n : Int) (j : Int) = (L3 (nth n (f3 m + sayV (hi 85) m) j) : Nat) := by
            unfold aSlips
            try dsimp only [gσ, gm, gg, gi]
            rw [hpv]
            refine (if_neg (by first | omega | assumption)).trans ?_
            refine (if_neg (by first | omega | assumption)).trans ?_
            refine (if_neg (by first | omega | assumption)).trans ?_
            refine (if_neg (show ¬ ¬ (1 ≤ (j : Int) ∧ (j : Int) ≤ (slN n (f3 m + sayV (hi 85) m) : Nat)) by omega)).trans ?_
            rfl
          rw [hA] at hq
          exact hq _ _ (by repeat (first | exact gr0 | refine gr1 (by decide) ?_ | refine gr2 (by decide) ?_)) (RM_up (hl := hl) hC hm hm2 hgr k0 k1 k2 k3 (hs1 8 (by decide) (by decide)) (hs1 9 (by decide) (by decide)) (hs1 11 (by decide) (by decide)) (hs1 13 (by decide) (by decide)) rfl rfl rfl rfl rfl rfl rfl rfl)
        · skip
          refine V.qI (pc := 53) rfl rfl ?_
          refine V.if_eq (pc := 56) 73 dX8_slips_56 (by decide) (fun h56 => ?_) (fun hc => by exact absurd hc (by decide))
          refine V.bipush (pc := 73) (z := (-6)) dX8_slips_73 (by decide +kernel) ⟨by decide, by decide⟩ ?_
          refine V.iret (pc := 75) (z := (-6)) dX8_slips_75 rfl ?_
          have hA : aSlips (σ, m, hi 85, im) (n : Int) i = -6 := by
            unfold aSlips
            try dsimp only [gσ, gm, gg, gi]
            rw [hpv]
            refine (if_neg (by first | omega | assumption)).trans ?_
            refine (if_neg (by first | omega | assumption)).trans ?_
            refine (if_neg (by first | omega | assumption)).trans ?_
            refine (if_pos (show ¬ (1 ≤ i ∧ i ≤ (slN n (f3 m + sayV (hi 85) m) : Nat)) by omega)).trans ?_
            rfl
          rw [hA] at hq
          exact hq _ _ (by repeat (first | exact gr0 | refine gr1 (by decide) ?_ | refine gr2 (by decide) ?_)) (RM_up (hl := hl) hC hm hm2 hgr k0 k1 k2 k3 (hs1 8 (by decide) (by decide)) (hs1 9 (by decide) (by decide)) (hs1 11 (by decide) (by decide)) (hs1 13 (by decide) (by decide)) rfl rfl rfl rfl rfl rfl rfl rfl)
      · skip
        refine V.aload_n (pc := 38) 0 dX8_slips_38 rfl ?_
        refine V.gi (pc := 39) 8 3 ((slN n (f3 m + sayV (hi 85) m) : Nat) : Int) flX8_90 dX8_slips_39 (kS_77) (by decide) (by decide) rfl (hs2) ?_
        refine V.goto (pc := 42) 75 dX8_slips_42 (by decide) ?_
        refine V.iret (pc := 75) (z := ((slN n (f3 m + sayV (hi 85) m) : Nat) : Int)) dX8_slips_75 rfl ?_
        have hA : aSlips (σ, m, hi 85, im) (n : Int) i = (slN n (f3 m + sayV (hi 85) m) : Nat) := by
          unfold aSlips
          try dsimp only [gσ, gm, gg, gi]
          rw [hpv]
          refine (if_neg (by first | omega | assumption)).trans ?_
          refine (if_neg (by first | omega | assumption)).trans ?_
          refine (if_pos (by first | omega | assumption)).trans ?_
          rfl
        rw [hA] at hq
        exact hq _ _ (by repeat (first | exact gr0 | refine gr1 (by decide) ?_ | refine gr2 (by decide) ?_)) (RM_up (hl := hl) hC hm hm2 hgr k0 k1 k2 k3 (hs1 8 (by decide) (by decide)) (hs1 9 (by decide) (by decide)) (hs1 11 (by decide) (by decide)) (hs1 13 (by decide) (by decide)) rfl rfl rfl rfl rfl rfl rfl rfl)
    · have hsf : sayF (hi 85) m ≠ -6 := by omega
      have hpv : padV (σ, m, hi 85, im) = -1 := padV_n hsf
      refine V.bipush (pc := 22) (z := (-5)) dX8_slips_22 (by decide +kernel) ⟨by decide, by decide⟩ ?_
      refine V.iret (pc := 24) (z := (-5)) dX8_slips_24 rfl ?_
      have hA : aSlips (σ, m, hi 85, im) (n : Int) i = -5 := by
        unfold aSlips
        try dsimp only [gσ, gm, gg, gi]
        refine (if_neg (by first | omega | assumption)).trans ?_
        refine (if_pos (by first | omega | assumption)).trans ?_
        rfl
      rw [hA] at hq
      exact hq _ _ (by repeat (first | exact gr0 | refine gr1 (by decide) ?_ | refine gr2 (by decide) ?_)) hR
  · skip
    refine V.qI (pc := 6) rfl rfl ?_
    refine V.if_ne (pc := 9) 15 dX8_slips_9 (by decide) (fun hc => by exact absurd hc (by decide)) (fun h9 => ?_)
    refine V.bipush (pc := 12) (z := (-2)) dX8_slips_12 (by decide +kernel) ⟨by decide, by decide⟩ ?_
    refine V.iret (pc := 14) (z := (-2)) dX8_slips_14 rfl ?_
    have hA : aSlips (σ, m, hi 85, im) s i = -2 := by
      unfold aSlips
      try dsimp only [gσ, gm, gg, gi]
      refine (if_pos (by first | omega | assumption)).trans ?_
      rfl
    rw [hA] at hq
    exact hq _ _ (by repeat (first | exact gr0 | refine gr1 (by decide) ?_ | refine gr2 (by decide) ?_)) hR

set_option maxRecDepth 100000 in
theorem c_X8_bargain (hi hl : HI) (σ : SG) (m : Nat) (g : Nat → Int) (im : Nat → Option SG) (hR : RMo hi hl (σ, m, g, im))  (Q : QT) (hq : ∀ hi' hl' : HI, FrM hi hl hi' hl' → RMo hi' hl' (nBarg (σ, m, g, im) ) → Q (some (vI (aBarg (σ, m, g, im) ))) KW hi' hl') : Con eX8_bargain [vR 77] KW hi hl Q := by
  refine Con.ofV (by decide +kernel) (Nat.le_of_ble_eq_true rfl) ?_
  show V eX8_bargain none KW 0 [(0, vR 77)] [] hi hl 0 0 Q
  refine V.hieq (hi' := (upR hi 77 (hi 77))) (by rw [upR_id]) ?_
  obtain ⟨hC, ⟨hm, hm2, hg5, hgr⟩, k0, k1, k2, k3⟩ := RM_o hR
  subst hg5
  have hwf := hC.1
  have hn16 := hwf.2.2.1
  have hbg := hwf.2.2.2.2.1
  have hsr := sayF_rng (hi 85) m
  
  refine V.aload_n (pc := 0) 0 dX8_bargain_0 rfl ?_
  refine V.callV (pc := 1) (e1 := eX8_faultOfSaying) (o := 77) (c := 8) 0 [] [] mfX8_faultOfSaying slX8_faultOfSaying mlX8_135 dX8_bargain_1 (kS_77) (by decide) rfl rfl rfl (Nat.le_of_ble_eq_true rfl) ⟨by decide, by decide, by decide, by decide⟩ ?_
  refine c_X8_faultOfSaying (upR hi 77 (hi 77)) hl m hm hm2 _ ?_
  refine V.qI (pc := 1) rfl rfl ?_
  refine V.top (v' := vI (sayF (hi 85) m)) (rfl) ?_
  refine V.if_lt (pc := 4) 10 dX8_bargain_4 (by decide) (fun h4 => ?_) (fun h4 => ?_)
  · have hsf : sayF (hi 85) m = -6 := by omega
    have hpv : padV (σ, m, hi 85, im) = (((f3 m + sayV (hi 85) m) : Nat) : Int) := padV_y hsf
    have hsl := padS_lt hsf
    refine V.aload_n (pc := 10) 0 dX8_bargain_10 rfl ?_
    refine V.aload_n (pc := 11) 0 dX8_bargain_11 rfl ?_
    refine V.callV (pc := 12) (e1 := eX8_padSaying) (o := 77) (c := 8) 0 [] [vR 77] mfX8_padSaying slX8_padSaying mlX8_141 dX8_bargain_12 (kS_77) (by decide) rfl rfl rfl (Nat.le_of_ble_eq_true rfl) ⟨by decide, by decide, by decide, by decide⟩ ?_
    refine c_X8_padSaying (upR hi 77 (hi 77)) hl m hm hm2 hsf _ ?_
    refine V.qI (pc := 12) rfl rfl ?_
    refine V.pi (pc := 15) (hi' := (upR hi 77 (updF (hi 77) 9 ((f3 m + sayV (hi 85) m : Nat) : Int)))) 8 9 flX8_147 dX8_bargain_15 (kS_77) (by decide) (by decide) rfl rfl u1 ?_
    refine V.aload_n (pc := 18) 0 dX8_bargain_18 rfl ?_
    refine V.iconst (pc := 19) (z := 0) dX8_bargain_19 rfl ⟨by decide, by decide⟩ ?_
    refine V.pi (pc := 20) (hi' := (upR hi 77 (updF (updF (hi 77) 9 ((f3 m + sayV (hi 85) m : Nat) : Int)) 13 0))) 8 13 flX8_113 dX8_bargain_20 (kS_77) (by decide) (by decide) rfl rfl u1 ?_
    refine V.aload_n (pc := 23) 0 dX8_bargain_23 rfl ?_
    refine V.gi (pc := 24) 8 9 (((f3 m + sayV (hi 85) m) : Nat) : Int) flX8_147 dX8_bargain_24 (kS_77) (by decide) (by decide) rfl (rfl) ?_
    refine V.callS (pc := 27) (e1 := eX8_wordsOf) 1 [vI (((f3 m + sayV (hi 85) m) : Nat) : Int)] [] mfX8_wordsOf slX8_wordsOf mlX8_80 dX8_bargain_27 rfl rfl (Nat.le_of_ble_eq_true rfl) ⟨by decide, by decide, by decide, by decide⟩ ?_
    refine c_X8_wordsOf KW (upR hi 77 (updF (updF (hi 77) 9 ((f3 m + sayV (hi 85) m : Nat) : Int)) 13 0)) hl (f3 m + sayV (hi 85) m) (by omega) _ ?_
    refine V.qI (pc := 27) rfl rfl ?_
    refine V.iret (pc := 30) (z := ((L3 (f3 m + sayV (hi 85) m) : Nat) : Int)) dX8_bargain_30 rfl ?_
    have hA : aBarg (σ, m, hi 85, im)  = (L3 (f3 m + sayV (hi 85) m) : Nat) := by
      unfold aBarg
      try dsimp only [gσ, gm, gg, gi]
      rw [hpv]
      refine (if_neg (by first | omega | assumption)).trans ?_
      rfl
    rw [hA] at hq
    have hN : nBarg (σ, m, hi 85, im)  = (setBg σ (f3 m + sayV (hi 85) m), 0, hi 85, im) := by
      unfold nBarg
      try dsimp only [gσ, gm, gg, gi]
      rw [hpv]
      refine (if_neg (by first | omega | assumption)).trans ?_
      rfl
    rw [hN] at hq
    exact hq _ _ (by repeat (first | exact gr0 | refine gr1 (by decide) ?_ | refine gr2 (by decide) ?_)) (RM_i (MR_bg hC hsl (by show updF (updF (hi 77) 9 _) 13 0 9 = _; rw [updF_n (by decide)]; exact updF_s) rfl rfl rfl rfl rfl rfl rfl) (by show updF (updF (hi 77) 9 (((f3 m + sayV (hi 85) m) : Nat) : Int)) 13 0 13 = _; exact updF_s) (by omega) (rfl) (fun i hi' => absurd hi' (Nat.not_lt_zero i)) (k0) (k1) (k2) (k3))
  · have hsf : sayF (hi 85) m ≠ -6 := by omega
    have hpv : padV (σ, m, hi 85, im) = -1 := padV_n hsf
    refine V.bipush (pc := 7) (z := (-5)) dX8_bargain_7 (by decide +kernel) ⟨by decide, by decide⟩ ?_
    refine V.iret (pc := 9) (z := (-5)) dX8_bargain_9 rfl ?_
    rw [upR_id]
    have hA : aBarg (σ, m, hi 85, im)  = -5 := by
      unfold aBarg
      try dsimp only [gσ, gm, gg, gi]
      refine (if_pos (by first | omega | assumption)).trans ?_
      rfl
    rw [hA] at hq
    have hN : nBarg (σ, m, hi 85, im)  = (σ, m, hi 85, im) := by
      unfold nBarg
      try dsimp only [gσ, gm, gg, gi]
      refine (if_pos (by first | omega | assumption)).trans ?_
      rfl
    rw [hN] at hq
    exact hq _ _ (by repeat (first | exact gr0 | refine gr1 (by decide) ?_ | refine gr2 (by decide) ?_)) hR

set_option maxRecDepth 100000 in
theorem c_X8_says (hi hl : HI) (σ : SG) (m : Nat) (g : Nat → Int) (im : Nat → Option SG) (hR : RMo hi hl (σ, m, g, im)) (b : Int) (i : Int) (hi0 : -2147483648 ≤ i ∧ i < 2147483648) (Q : QT) (hq : ∀ hi' hl' : HI, FrM hi hl hi' hl' → RMo hi' hl' (σ, m, g, im) → Q (some (vI (aSays (σ, m, g, im) b i))) KW hi' hl') : Con eX8_says [vR 77, vI b, vI i] KW hi hl Q := by
  refine Con.ofV (by decide +kernel) (Nat.le_of_ble_eq_true rfl) ?_
  show V eX8_says none KW 0 [(0, vR 77), (1, vI b), (2, vI i)] [] hi hl 0 0 Q
  obtain ⟨hC, ⟨hm, hm2, hg5, hgr⟩, k0, k1, k2, k3⟩ := RM_o hR
  subst hg5
  have hwf := hC.1
  have hn16 := hwf.2.2.1
  have hbg := hwf.2.2.2.2.1
  refine V.iload_n (pc := 0) 1 dX8_says_0 rfl ?_
  refine V.callS (pc := 1) (e1 := eX8_isBird) 1 [vI b] [] mfX8_isBird slX8_isBird mlX8_103 dX8_says_1 rfl rfl (Nat.le_of_ble_eq_true rfl) ⟨by decide, by decide, by decide, by decide⟩ ?_
  refine c_X8_isBird KW hi hl b _ (fun hb => ?_) (fun hb => ?_)
  · skip
    refine V.qI (pc := 1) rfl rfl ?_
    refine V.if_ne (pc := 4) 9 dX8_says_4 (by decide) (fun h4 => ?_) (fun hc => by exact absurd hc (by decide))
    obtain ⟨n, rfl⟩ : ∃ n : Nat, b = (n : Int) := ⟨b.toNat, by omega⟩
    refine V.aload_n (pc := 9) 0 dX8_says_9 rfl ?_
    refine V.aload_n (pc := 10) 0 dX8_says_10 rfl ?_
    refine V.gi (pc := 11) 8 9 ((bg σ : Nat) : Int) flX8_147 dX8_says_11 (kS_77) (by decide) (by decide) rfl (hC.2.2.2.2.2.1) ?_
    refine V.bipush (pc := 14) (z := (-6)) dX8_says_14 (by decide +kernel) ⟨by decide, by decide⟩ ?_
    refine V.iconst (pc := 16) (z := 0) dX8_says_16 rfl ⟨by decide, by decide⟩ ?_
    refine V.callV (pc := 17) (e1 := eX8_goDay) (o := 77) (c := 8) 3 [vI ((bg σ : Nat) : Int), vI (-6), vI 0] [] mfX8_goDay slX8_goDay mlX8_164 dX8_says_17 (kS_77) (by decide) rfl rfl rfl (Nat.le_of_ble_eq_true rfl) ⟨by decide, by decide, by decide, by decide⟩ ?_
    refine c_X8_goDay hi hl σ hC (bg σ) (by omega) (-6) 0 _ (fun f77 f86 f87 f78 f79 hgd hgW => ?_)
    refine V.qV (pc := 17) rfl rfl ?_
    refine V.hieq (hi' := (upR (upR (upR (upR (upR hi 79 f79) 78 f78) 87 f87) 86 f86) 77 f77)) ((upR_c ((upR_c ((upR_c ((upR_c r0).trans (rs (by decide) r0))).trans (rs (by decide) (rs (by decide) r0)))).trans (rs (by decide) (rs (by decide) (rs (by decide) r0))))).trans (rs (by decide) (rs (by decide) (rs (by decide) (rs (by decide) r0))))) ?_
    have hgW : WM f77 f86 f87 (wD σ) (nn σ) := hgW
    refine V.aload_n (pc := 20) 0 dX8_says_20 rfl ?_
    refine V.aload_n (pc := 21) 0 dX8_says_21 rfl ?_
    refine V.gr (pc := 22) 8 14 86 flX8_34 dX8_says_22 (kS_77) (by decide) (by decide) rfl (kR_77_14) ?_
    refine V.iload_n (pc := 25) 1 dX8_says_25 rfl ?_
    refine V.ia (pc := 26) (len := 6) n (encM ((wD σ).1 n)) dX8_says_26 (kS_86) (rfl) (by omega) (hgW.2.1 n (by omega)) ?_
    refine V.iload_n (pc := 27) 2 dX8_says_27 rfl ?_
    refine V.callV (pc := 28) (e1 := eX8_signAt) (o := 77) (c := 8) 2 [vI (encM ((wD σ).1 n)), vI i] [] mfX8_signAt slX8_signAt mlX8_168 dX8_says_28 (kS_77) (by decide) rfl rfl rfl (Nat.le_of_ble_eq_true rfl) ⟨by decide, by decide, by decide, by decide⟩ ?_
    refine c_X8_signAt (upR (upR (upR (upR (upR hi 79 f79) 78 f78) 87 f87) 86 f86) 77 f77) hl ((wD σ).1 n) (hgW.1.1 n) i (hi0) _ (fun fs gs hfs => ?_)
    refine V.qI (pc := 28) rfl rfl ?_
    refine V.hieq (hi' := (upR (upR (upR (upR (upR hi 79 f79) 78 gs) 87 f87) 86 f86) 77 fs)) ((upR_c r1).trans (rs (by decide) (rs (by decide) (rs (by decide) r1)))) ?_
    refine V.iret (pc := 31) (z := (wordO (encC ((wD σ).1 n)) i)) dX8_says_31 rfl ?_
    have hA : aSays (σ, m, hi 85, im) (n : Int) i = wordO (encC ((wD σ).1 n)) i := by
      unfold aSays
      try dsimp only [gσ, gm, gg, gi]
      refine (if_neg (by first | omega | assumption)).trans ?_
      rfl
    rw [hA] at hq
    exact hq _ _ (by repeat (first | exact gr0 | refine gr1 (by decide) ?_ | refine gr2 (by decide) ?_)) (RM_up (hl := hl) hC hm hm2 hgr k0 k1 k2 k3 ((hfs 8 (by decide)).trans (hgd 8 (by decide) (by decide) (by decide))) ((hfs 9 (by decide)).trans (hgd 9 (by decide) (by decide) (by decide))) ((hfs 11 (by decide)).trans (hgd 11 (by decide) (by decide) (by decide))) ((hfs 13 (by decide)).trans (hgd 13 (by decide) (by decide) (by decide))) rfl rfl rfl rfl rfl rfl rfl rfl)
  · skip
    refine V.qI (pc := 1) rfl rfl ?_
    refine V.if_ne (pc := 4) 9 dX8_says_4 (by decide) (fun hc => by exact absurd hc (by decide)) (fun h4 => ?_)
    refine V.iconst (pc := 7) (z := (-1)) dX8_says_7 rfl ⟨by decide, by decide⟩ ?_
    refine V.iret (pc := 8) (z := (-1)) dX8_says_8 rfl ?_
    have hA : aSays (σ, m, hi 85, im) b i = -1 := by
      unfold aSays
      try dsimp only [gσ, gm, gg, gi]
      refine (if_pos (by first | omega | assumption)).trans ?_
      rfl
    rw [hA] at hq
    exact hq _ _ (by repeat (first | exact gr0 | refine gr1 (by decide) ?_ | refine gr2 (by decide) ?_)) hR

set_option maxRecDepth 100000 in
theorem c_X8_testify (hi hl : HI) (σ : SG) (m : Nat) (g : Nat → Int) (im : Nat → Option SG) (hR : RMo hi hl (σ, m, g, im)) (b : Int) (Q : QT) (hq : ∀ hi' hl' : HI, FrM hi hl hi' hl' → RMo hi' hl' (nTest (σ, m, g, im) b) → Q (some (vI (aTest (σ, m, g, im) b))) KW hi' hl') : Con eX8_testify [vR 77, vI b] KW hi hl Q := by
  refine Con.ofV (by decide +kernel) (Nat.le_of_ble_eq_true rfl) ?_
  show V eX8_testify none KW 0 [(0, vR 77), (1, vI b)] [] hi hl 0 0 Q
  refine V.hieq (hi' := (upR (upR hi 77 (hi 77)) 84 (hi 84))) (by rw [upR_id, upR_id]) ?_
  obtain ⟨hC, ⟨hm, hm2, hg5, hgr⟩, k0, k1, k2, k3⟩ := RM_o hR
  subst hg5
  have hwf := hC.1
  have hn16 := hwf.2.2.1
  have hbg := hwf.2.2.2.2.1
  have hsr := sayF_rng (hi 85) m
  
  refine V.iload_n (pc := 0) 1 dX8_testify_0 rfl ?_
  refine V.callS (pc := 1) (e1 := eX8_isBird) 1 [vI b] [] mfX8_isBird slX8_isBird mlX8_103 dX8_testify_1 rfl rfl (Nat.le_of_ble_eq_true rfl) ⟨by decide, by decide, by decide, by decide⟩ ?_
  refine c_X8_isBird KW (upR (upR hi 77 (hi 77)) 84 (hi 84)) hl b _ (fun hb => ?_) (fun hb => ?_)
  · skip
    refine V.qI (pc := 1) rfl rfl ?_
    refine V.if_ne (pc := 4) 9 dX8_testify_4 (by decide) (fun h4 => ?_) (fun hc => by exact absurd hc (by decide))
    obtain ⟨n, rfl⟩ : ∃ n : Nat, b = (n : Int) := ⟨b.toNat, by omega⟩
    refine V.aload_n (pc := 9) 0 dX8_testify_9 rfl ?_
    refine V.callV (pc := 10) (e1 := eX8_faultOfSaying) (o := 77) (c := 8) 0 [] [] mfX8_faultOfSaying slX8_faultOfSaying mlX8_135 dX8_testify_10 (kS_77) (by decide) rfl rfl rfl (Nat.le_of_ble_eq_true rfl) ⟨by decide, by decide, by decide, by decide⟩ ?_
    refine c_X8_faultOfSaying (upR (upR hi 77 (hi 77)) 84 (hi 84)) hl m hm hm2 _ ?_
    refine V.qI (pc := 10) rfl rfl ?_
    refine V.top (v' := vI (sayF (hi 85) m)) (rfl) ?_
    refine V.if_lt (pc := 13) 19 dX8_testify_13 (by decide) (fun h13 => ?_) (fun h13 => ?_)
    · have hsf : sayF (hi 85) m = -6 := by omega
      have hpv : padV (σ, m, hi 85, im) = (((f3 m + sayV (hi 85) m) : Nat) : Int) := padV_y hsf
      have hsl := padS_lt hsf
      refine V.aload_n (pc := 19) 0 dX8_testify_19 rfl ?_
      refine V.gr (pc := 20) 8 10 84 flX8_28 dX8_testify_20 (kS_77) (by decide) (by decide) rfl (kR_77_10) ?_
      refine V.iload_n (pc := 23) 1 dX8_testify_23 rfl ?_
      refine V.aload_n (pc := 24) 0 dX8_testify_24 rfl ?_
      refine V.callV (pc := 25) (e1 := eX8_padSaying) (o := 77) (c := 8) 0 [] [vI ((n : Nat) : Int), vR 84] mfX8_padSaying slX8_padSaying mlX8_141 dX8_testify_25 (kS_77) (by decide) rfl rfl rfl (Nat.le_of_ble_eq_true rfl) ⟨by decide, by decide, by decide, by decide⟩ ?_
      refine c_X8_padSaying (upR (upR hi 77 (hi 77)) 84 (hi 84)) hl m hm hm2 hsf _ ?_
      refine V.qI (pc := 25) rfl rfl ?_
      refine V.is (pc := 28) (len := 6) (hi' := (upR (upR hi 77 (hi 77)) 84 (updF (hi 84) n ((f3 m + sayV (hi 85) m : Nat) : Int)))) n dX8_testify_28 (kS_84) (rfl) (by omega) u1 ?_
      refine V.aload_n (pc := 29) 0 dX8_testify_29 rfl ?_
      refine V.iconst (pc := 30) (z := 0) dX8_testify_30 rfl ⟨by decide, by decide⟩ ?_
      refine V.pi (pc := 31) (hi' := (upR (upR hi 77 (updF (hi 77) 13 0)) 84 (updF (hi 84) n ((f3 m + sayV (hi 85) m : Nat) : Int)))) 8 13 flX8_113 dX8_testify_31 (kS_77) (by decide) (by decide) rfl rfl (us (by decide) u1) ?_
      refine V.aload_n (pc := 34) 0 dX8_testify_34 rfl ?_
      refine V.gr (pc := 35) 8 10 84 flX8_28 dX8_testify_35 (kS_77) (by decide) (by decide) rfl (kR_77_10) ?_
      refine V.iload_n (pc := 38) 1 dX8_testify_38 rfl ?_
      refine V.ia (pc := 39) (len := 6) n (((f3 m + sayV (hi 85) m) : Nat) : Int) dX8_testify_39 (kS_84) (rfl) (by omega) (updF_s) ?_
      refine V.callS (pc := 40) (e1 := eX8_wordsOf) 1 [vI (((f3 m + sayV (hi 85) m) : Nat) : Int)] [] mfX8_wordsOf slX8_wordsOf mlX8_80 dX8_testify_40 rfl rfl (Nat.le_of_ble_eq_true rfl) ⟨by decide, by decide, by decide, by decide⟩ ?_
      refine c_X8_wordsOf KW (upR (upR hi 77 (updF (hi 77) 13 0)) 84 (updF (hi 84) n ((f3 m + sayV (hi 85) m : Nat) : Int))) hl (f3 m + sayV (hi 85) m) (by omega) _ ?_
      refine V.qI (pc := 40) rfl rfl ?_
      refine V.iret (pc := 43) (z := ((L3 (f3 m + sayV (hi 85) m) : Nat) : Int)) dX8_testify_43 rfl ?_
      have hA : aTest (σ, m, hi 85, im) (n : Int) = (L3 (f3 m + sayV (hi 85) m) : Nat) := by
        unfold aTest
        try dsimp only [gσ, gm, gg, gi]
        rw [hpv]
        refine (if_neg (by first | omega | assumption)).trans ?_
        refine (if_neg (by first | omega | assumption)).trans ?_
        rfl
      rw [hA] at hq
      have hN : nTest (σ, m, hi 85, im) (n : Int) = (setTe σ n (some (f3 m + sayV (hi 85) m)), 0, hi 85, im) := by
        unfold nTest
        try dsimp only [gσ, gm, gg, gi]
        rw [hpv]
        refine (if_neg (by first | omega | assumption)).trans ?_
        rfl
      rw [hN] at hq
      exact hq _ _ (by repeat (first | exact gr0 | refine gr1 (by decide) ?_ | refine gr2 (by decide) ?_)) (RM_i (MR_te hC (by omega) (fun v hv => by cases hv; exact hsl) rfl rfl rfl rfl rfl rfl rfl rfl rfl) (by show updF (hi 77) 13 0 13 = _; exact updF_s) (by omega) (rfl) (fun i hi' => absurd hi' (Nat.not_lt_zero i)) (k0) (k1) (k2) (k3))
    · have hsf : sayF (hi 85) m ≠ -6 := by omega
      have hpv : padV (σ, m, hi 85, im) = -1 := padV_n hsf
      refine V.bipush (pc := 16) (z := (-5)) dX8_testify_16 (by decide +kernel) ⟨by decide, by decide⟩ ?_
      refine V.iret (pc := 18) (z := (-5)) dX8_testify_18 rfl ?_
      rw [upR_id, upR_id]
      have hA : aTest (σ, m, hi 85, im) (n : Int) = -5 := by
        unfold aTest
        try dsimp only [gσ, gm, gg, gi]
        refine (if_neg (by first | omega | assumption)).trans ?_
        refine (if_pos (by first | omega | assumption)).trans ?_
        rfl
      rw [hA] at hq
      have hN : nTest (σ, m, hi 85, im) (n : Int) = (σ, m, hi 85, im) := by
        unfold nTest
        try dsimp only [gσ, gm, gg, gi]
        refine (if_pos (Or.inr hpv)).trans ?_
        rfl
      rw [hN] at hq
      exact hq _ _ (by repeat (first | exact gr0 | refine gr1 (by decide) ?_ | refine gr2 (by decide) ?_)) hR
  · skip
    refine V.qI (pc := 1) rfl rfl ?_
    refine V.if_ne (pc := 4) 9 dX8_testify_4 (by decide) (fun hc => by exact absurd hc (by decide)) (fun h4 => ?_)
    refine V.iconst (pc := 7) (z := (-1)) dX8_testify_7 rfl ⟨by decide, by decide⟩ ?_
    refine V.iret (pc := 8) (z := (-1)) dX8_testify_8 rfl ?_
    rw [upR_id, upR_id]
    have hA : aTest (σ, m, hi 85, im) b = -1 := by
      unfold aTest
      try dsimp only [gσ, gm, gg, gi]
      refine (if_pos (by first | omega | assumption)).trans ?_
      rfl
    rw [hA] at hq
    have hN : nTest (σ, m, hi 85, im) b = (σ, m, hi 85, im) := by
      unfold nTest
      try dsimp only [gσ, gm, gg, gi]
      refine (if_pos (Or.inl (by omega))).trans ?_
      rfl
    rw [hN] at hq
    exact hq _ _ (by repeat (first | exact gr0 | refine gr1 (by decide) ?_ | refine gr2 (by decide) ?_)) hR

set_option maxRecDepth 100000 in
theorem c_X8_unsay (hi hl : HI) (σ : SG) (m : Nat) (g : Nat → Int) (im : Nat → Option SG) (hR : RMo hi hl (σ, m, g, im)) (b : Int) (Q : QT) (hq : ∀ hi' hl' : HI, FrM hi hl hi' hl' → RMo hi' hl' (nUns (σ, m, g, im) b) → Q (some (vI (aUns (σ, m, g, im) b))) KW hi' hl') : Con eX8_unsay [vR 77, vI b] KW hi hl Q := by
  refine Con.ofV (by decide +kernel) (Nat.le_of_ble_eq_true rfl) ?_
  show V eX8_unsay none KW 0 [(0, vR 77), (1, vI b)] [] hi hl 0 0 Q
  refine V.hieq (hi' := (upR hi 84 (hi 84))) (by rw [upR_id]) ?_
  obtain ⟨hC, ⟨hm, hm2, hg5, hgr⟩, k0, k1, k2, k3⟩ := RM_o hR
  subst hg5
  have hwf := hC.1
  have hn16 := hwf.2.2.1
  have hbg := hwf.2.2.2.2.1
  refine V.iload_n (pc := 0) 1 dX8_unsay_0 rfl ?_
  refine V.callS (pc := 1) (e1 := eX8_isBird) 1 [vI b] [] mfX8_isBird slX8_isBird mlX8_103 dX8_unsay_1 rfl rfl (Nat.le_of_ble_eq_true rfl) ⟨by decide, by decide, by decide, by decide⟩ ?_
  refine c_X8_isBird KW (upR hi 84 (hi 84)) hl b _ (fun hb => ?_) (fun hb => ?_)
  · skip
    refine V.qI (pc := 1) rfl rfl ?_
    refine V.if_ne (pc := 4) 9 dX8_unsay_4 (by decide) (fun h4 => ?_) (fun hc => by exact absurd hc (by decide))
    obtain ⟨n, rfl⟩ : ∃ n : Nat, b = (n : Int) := ⟨b.toNat, by omega⟩
    refine V.aload_n (pc := 9) 0 dX8_unsay_9 rfl ?_
    refine V.gr (pc := 10) 8 10 84 flX8_28 dX8_unsay_10 (kS_77) (by decide) (by decide) rfl (kR_77_10) ?_
    refine V.iload_n (pc := 13) 1 dX8_unsay_13 rfl ?_
    refine V.ia (pc := 14) (len := 6) n (encM (te σ n)) dX8_unsay_14 (kS_84) (rfl) (by omega) (hC.2.2.1 n (by omega)) ?_
    refine V.if_ge (pc := 15) 22 dX8_unsay_15 (by decide) (fun h15 => ?_) (fun h15 => ?_)
    · have hvn : ¬ te σ n = none := by obtain ⟨v, hv⟩ := encM_s (show 0 ≤ encM (te σ n) by omega); rw [hv]; simp
      refine V.iconst (pc := 22) (z := 1) dX8_unsay_22 rfl ⟨by decide, by decide⟩ ?_
      refine V.istore_n (pc := 23) (i := 2) dX8_unsay_23 rfl (by decide) (ls' := [(2, vI 1), (0, vR 77), (1, vI ((n : Nat) : Int))]) rfl ?_
      refine V.aload_n (pc := 24) 1 dX8_unsay_24 rfl ?_
      refine V.gr (pc := 25) 8 10 84 flX8_28 dX8_unsay_25 (kS_77) (by decide) (by decide) rfl (kR_77_10) ?_
      refine V.iload_n (pc := 28) 2 dX8_unsay_28 rfl ?_
      refine V.bipush (pc := 29) (z := (-6)) dX8_unsay_29 (by decide +kernel) ⟨by decide, by decide⟩ ?_
      refine V.is (pc := 31) (len := 6) (hi' := (upR hi 84 (updF (hi 84) n (-6)))) n dX8_unsay_31 (kS_84) (rfl) (by omega) u1 ?_
      refine V.iload_n (pc := 32) 0 dX8_unsay_32 rfl ?_
      refine V.iret (pc := 33) (z := 1) dX8_unsay_33 rfl ?_
      have hA : aUns (σ, m, hi 85, im) (n : Int) = 1 := by
        unfold aUns
        try dsimp only [gσ, gm, gg, gi]
        refine (if_neg (by first | omega | assumption)).trans ?_
        refine (if_neg hvn).trans ?_
        rfl
      rw [hA] at hq
      have hN : nUns (σ, m, hi 85, im) (n : Int) = (setTe σ n none, m, hi 85, im) := by
        unfold nUns
        try dsimp only [gσ, gm, gg, gi]
        refine (if_neg (fun q => by rcases q with q | q; { omega }; { exact hvn q })).trans ?_
        rfl
      rw [hN] at hq
      exact hq _ _ (by repeat (first | exact gr0 | refine gr1 (by decide) ?_ | refine gr2 (by decide) ?_)) (RM_i (MR_te hC (by omega) (fun v hv => by cases hv) rfl rfl rfl rfl rfl rfl rfl rfl rfl) (hm) (hm2) (rfl) (hgr) (k0) (k1) (k2) (k3))
    · have hvn := encM_none.mp (show encM (te σ n) < 0 by omega)
      refine V.iconst (pc := 18) (z := 0) dX8_unsay_18 rfl ⟨by decide, by decide⟩ ?_
      refine V.goto (pc := 19) 23 dX8_unsay_19 (by decide) ?_
      refine V.istore_n (pc := 23) (i := 2) dX8_unsay_23 rfl (by decide) (ls' := [(2, vI 0), (0, vR 77), (1, vI ((n : Nat) : Int))]) rfl ?_
      refine V.aload_n (pc := 24) 1 dX8_unsay_24 rfl ?_
      refine V.gr (pc := 25) 8 10 84 flX8_28 dX8_unsay_25 (kS_77) (by decide) (by decide) rfl (kR_77_10) ?_
      refine V.iload_n (pc := 28) 2 dX8_unsay_28 rfl ?_
      refine V.bipush (pc := 29) (z := (-6)) dX8_unsay_29 (by decide +kernel) ⟨by decide, by decide⟩ ?_
      refine V.is (pc := 31) (len := 6) (hi' := (upR hi 84 (updF (hi 84) n (-6)))) n dX8_unsay_31 (kS_84) (rfl) (by omega) u1 ?_
      refine V.iload_n (pc := 32) 0 dX8_unsay_32 rfl ?_
      refine V.iret (pc := 33) (z := 0) dX8_unsay_33 rfl ?_
      have hA : aUns (σ, m, hi 85, im) (n : Int) = 0 := by
        unfold aUns
        try dsimp only [gσ, gm, gg, gi]
        refine (if_neg (by first | omega | assumption)).trans ?_
        refine (if_pos hvn).trans ?_
        rfl
      rw [hA] at hq
      have hN : nUns (σ, m, hi 85, im) (n : Int) = (σ, m, hi 85, im) := by
        unfold nUns
        try dsimp only [gσ, gm, gg, gi]
        refine (if_pos (Or.inr hvn)).trans ?_
        rfl
      rw [hN] at hq
      exact hq _ _ (by repeat (first | exact gr0 | refine gr1 (by decide) ?_ | refine gr2 (by decide) ?_)) (RM_i (MR_te0 hC (by omega) hvn rfl rfl rfl rfl rfl rfl rfl rfl) (hm) (hm2) (rfl) (hgr) (k0) (k1) (k2) (k3))
  · skip
    refine V.qI (pc := 1) rfl rfl ?_
    refine V.if_ne (pc := 4) 9 dX8_unsay_4 (by decide) (fun hc => by exact absurd hc (by decide)) (fun h4 => ?_)
    refine V.iconst (pc := 7) (z := (-1)) dX8_unsay_7 rfl ⟨by decide, by decide⟩ ?_
    refine V.iret (pc := 8) (z := (-1)) dX8_unsay_8 rfl ?_
    rw [upR_id]
    have hA : aUns (σ, m, hi 85, im) b = -1 := by
      unfold aUns
      try dsimp only [gσ, gm, gg, gi]
      refine (if_pos (by first | omega | assumption)).trans ?_
      rfl
    rw [hA] at hq
    have hN : nUns (σ, m, hi 85, im) b = (σ, m, hi 85, im) := by
      unfold nUns
      try dsimp only [gσ, gm, gg, gi]
      refine (if_pos (Or.inl (by omega))).trans ?_
      rfl
    rw [hN] at hq
    exact hq _ _ (by repeat (first | exact gr0 | refine gr1 (by decide) ?_ | refine gr2 (by decide) ?_)) hR

set_option maxRecDepth 100000 in
theorem c_X8_rare (hi hl : HI) (σ : SG) (m : Nat) (g : Nat → Int) (im : Nat → Option SG) (hR : RMo hi hl (σ, m, g, im)) (v : Int) (Q : QT) (hq : ∀ hi' hl' : HI, FrM hi hl hi' hl' → RMo hi' hl' (nRare (σ, m, g, im) v) → Q (some (vI (aRare (σ, m, g, im) v))) KW hi' hl') : Con eX8_rare [vR 77, vI v] KW hi hl Q := by
  refine Con.ofV (by decide +kernel) (Nat.le_of_ble_eq_true rfl) ?_
  show V eX8_rare none KW 0 [(0, vR 77), (1, vI v)] [] hi hl 0 0 Q
  refine V.hieq (hi' := (upR hi 77 (hi 77))) (by rw [upR_id]) ?_
  obtain ⟨hC, ⟨hm, hm2, hg5, hgr⟩, k0, k1, k2, k3⟩ := RM_o hR
  subst hg5
  have hwf := hC.1
  have hn16 := hwf.2.2.1
  have hbg := hwf.2.2.2.2.1
  refine V.iload_n (pc := 0) 1 dX8_rare_0 rfl ?_
  refine V.i2l (pc := 1) dX8_rare_1 ?_
  refine V.lconst (pc := 2) (z := 1) dX8_rare_2 (by decide +kernel) ⟨by decide, by decide⟩ ?_
  refine V.ldc2 (pc := 3) (z := 99) clX8_129 dX8_rare_3 ⟨by decide, by decide⟩ ?_
  refine V.callS (pc := 6) (e1 := eX8_in) 3 [vL v, vL 1, vL 99] [] mfX8_in slX8_in mlX8_72 dX8_rare_6 rfl rfl (Nat.le_of_ble_eq_true rfl) ⟨by decide, by decide, by decide, by decide⟩ ?_
  refine c_X8_in KW (upR hi 77 (hi 77)) hl v 1 99 _ (fun hin => ?_) (fun hin => ?_)
  · skip
    refine V.qI (pc := 6) rfl rfl ?_
    refine V.if_ne (pc := 9) 15 dX8_rare_9 (by decide) (fun h9 => ?_) (fun hc => by exact absurd hc (by decide))
    obtain ⟨w, rfl⟩ : ∃ w : Nat, v = (w : Int) := ⟨v.toNat, by omega⟩
    refine V.aload_n (pc := 15) 0 dX8_rare_15 rfl ?_
    refine V.gi (pc := 16) 8 11 ((ra σ : Nat) : Int) flX8_66 dX8_rare_16 (kS_77) (by decide) (by decide) rfl (hC.2.2.2.2.2.2) ?_
    refine V.istore_n (pc := 19) (i := 2) dX8_rare_19 rfl (by decide) (ls' := [(2, vI ((ra σ : Nat) : Int)), (0, vR 77), (1, vI ((w : Nat) : Int))]) rfl ?_
    refine V.aload_n (pc := 20) 1 dX8_rare_20 rfl ?_
    refine V.iload_n (pc := 21) 2 dX8_rare_21 rfl ?_
    refine V.pi (pc := 22) (hi' := (upR hi 77 (updF (hi 77) 11 ((w : Nat) : Int)))) 8 11 flX8_66 dX8_rare_22 (kS_77) (by decide) (by decide) rfl rfl u1 ?_
    refine V.iload_n (pc := 25) 0 dX8_rare_25 rfl ?_
    refine V.iret (pc := 26) (z := ((ra σ : Nat) : Int)) dX8_rare_26 rfl ?_
    have hA : aRare (σ, m, hi 85, im) (w : Int) = (ra σ : Nat) := by
      unfold aRare
      try dsimp only [gσ, gm, gg, gi]
      refine (if_neg (by first | omega | assumption)).trans ?_
      rfl
    rw [hA] at hq
    have hN : nRare (σ, m, hi 85, im) (w : Int) = (setRa σ w, m, hi 85, im) := by
      unfold nRare
      try dsimp only [gσ, gm, gg, gi]
      refine (if_neg (by first | omega | assumption)).trans ?_
      rfl
    rw [hN] at hq
    exact hq _ _ (by repeat (first | exact gr0 | refine gr1 (by decide) ?_ | refine gr2 (by decide) ?_)) (RM_i (MR_ra hC (by omega) (by show updF (hi 77) 11 ((w : Nat) : Int) 11 = _; exact updF_s) rfl rfl rfl rfl rfl rfl rfl) (hm) (hm2) (rfl) (hgr) (k0) (k1) (k2) (k3))
  · skip
    refine V.qI (pc := 6) rfl rfl ?_
    refine V.if_ne (pc := 9) 15 dX8_rare_9 (by decide) (fun hc => by exact absurd hc (by decide)) (fun h9 => ?_)
    refine V.bipush (pc := 12) (z := (-2)) dX8_rare_12 (by decide +kernel) ⟨by decide, by decide⟩ ?_
    refine V.iret (pc := 14) (z := (-2)) dX8_rare_14 rfl ?_
    rw [upR_id]
    have hA : aRare (σ, m, hi 85, im) v = -2 := by
      unfold aRare
      try dsimp only [gσ, gm, gg, gi]
      refine (if_pos (by first | omega | assumption)).trans ?_
      rfl
    rw [hA] at hq
    have hN : nRare (σ, m, hi 85, im) v = (σ, m, hi 85, im) := by
      unfold nRare
      try dsimp only [gσ, gm, gg, gi]
      refine (if_pos (by first | omega | assumption)).trans ?_
      rfl
    rw [hN] at hq
    exact hq _ _ (by repeat (first | exact gr0 | refine gr1 (by decide) ?_ | refine gr2 (by decide) ?_)) hR

