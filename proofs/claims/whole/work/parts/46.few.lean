theorem c_X8_doubtful2 (hi hl : HI) (σ : SG) (hs : WF σ) (n birds cnt : Nat) (hn : 1 ≤ n ∧ n ≤ 3) (hbi : birds < 64) (h21 : hi 77 21 = (cnt : Nat)) (hcn : cnt < 8000) (hM : RP (hl 90) (hi 91) cnt (MJF σ n (p3 n))) (Q : QT) (hq : ∀ f93 f92 : Nat → Int, Q (some (vI (((if tlsF σ birds = true then 0 else 2 ^ p3 n - 1) : Nat) : Int))) KW (upR hi 93 f93) (upR hl 92 f92)) : Con eX8_doubtful [vR 77, vI (birds : Nat)] KW hi hl Q := by
  have hX : ∀ i, i < cnt → hl 90 i = (((fun i => (hl 90 i).toNat) i : Nat) : Int) ∧ hi 91 i = (((fun i => (hi 91 i).toNat) i : Nat) : Int) := by
    intro i hi2
    obtain ⟨x, j, h1, h2, h3⟩ := hM.1 i hi2
    show hl 90 i = (((hl 90 i).toNat : Nat) : Int) ∧ hi 91 i = (((hi 91 i).toNat : Nat) : Int)
    rw [h1, h2]; exact ⟨rfl, rfl⟩
  refine c_X8_doubtful hi hl birds cnt hbi h21 hcn (fun i => (hl 90 i).toNat) (fun i => (hi 91 i).toNat) hX (fun i hi2 => ?_) (fun i hi2 => ?_) Q (fun D f93 f92 hD1 hD2 => ?_)
  · obtain ⟨x, j, h1, h2, h3, R, y, h4, h5⟩ := hM.1 i hi2
    show (hl 90 i).toNat < _
    have hB := (n40 (show n < 4 by omega) h3).1
    rw [h1, Int.toNat_natCast, h5]
    exact rk_lt (fun c _ => oc_lt hB (isO_lt hs hB h4) c)
  · obtain ⟨x, j, h1, h2, h3, h4⟩ := hM.1 i hi2
    show (hi 91 i).toNat < 27
    have hB := (n40 (show n < 4 by omega) h3).2
    rw [h2, Int.toNat_natCast]; omega
  · have hA := D_all hs hn.1 (show n < 4 by omega) hbi hM hX hD2
    have e : D = (if tlsF σ birds = true then 0 else 2 ^ p3 n - 1) := by
      by_cases c : tlsF σ birds = true
      · rw [if_pos c]; exact hA.1 c
      · rw [if_neg c]
        exact hA.2 (by cases hx : tlsF σ birds; { rfl }; { exact absurd hx c })
    have := hq f93 f92
    rw [← e] at this
    exact this

set_option maxRecDepth 100000 in
theorem c_X8_doubt (hi hl : HI) (σ : SG) (m : Nat) (g : Nat → Int) (im : Nat → Option SG) (hR : RMo hi hl (σ, m, g, im)) (n : Int) (b : Int) (Q : QT) (hq : ∀ hi' hl' : HI, FrM hi hl hi' hl' → RMo hi' hl' (σ, m, g, im) → Q (some (vI (aDoubt (σ, m, g, im) n b))) KW hi' hl') : Con eX8_doubt [vR 77, vI n, vI b] KW hi hl Q := by
  refine Con.ofV (by decide +kernel) (Nat.le_of_ble_eq_true rfl) ?_
  show V eX8_doubt none KW 0 [(0, vR 77), (1, vI n), (2, vI b)] [] hi hl 0 0 Q
  obtain ⟨hC, ⟨hm, hm2, hg5, hgr⟩, k0, k1, k2, k3⟩ := RM_o hR
  subst hg5
  have hwf := hC.1
  have hn16 := hwf.2.2.1
  have hbg := hwf.2.2.2.2.1
  refine V.iload_n (pc := 0) 1 dX8_doubt_0 rfl ?_
  refine V.i2l (pc := 1) dX8_doubt_1 ?_
  refine V.lconst (pc := 2) (z := 1) dX8_doubt_2 (by decide +kernel) ⟨by decide, by decide⟩ ?_
  refine V.ldc2 (pc := 3) (z := 3) clX8_93 dX8_doubt_3 ⟨by decide, by decide⟩ ?_
  refine V.callS (pc := 6) (e1 := eX8_in) 3 [vL n, vL 1, vL 3] [] mfX8_in slX8_in mlX8_72 dX8_doubt_6 rfl rfl (Nat.le_of_ble_eq_true rfl) ⟨by decide, by decide, by decide, by decide⟩ ?_
  refine c_X8_in KW hi hl n 1 3 _ (fun hinn => ?_) (fun hinn => ?_)
  · skip
    refine V.qI (pc := 6) rfl rfl ?_
    refine V.if_eq (pc := 9) 24 dX8_doubt_9 (by decide) (fun hc => by exact absurd hc (by decide)) (fun h9 => ?_)
    refine V.iload_n (pc := 12) 2 dX8_doubt_12 rfl ?_
    refine V.i2l (pc := 13) dX8_doubt_13 ?_
    refine V.lconst (pc := 14) (z := 0) dX8_doubt_14 (by decide +kernel) ⟨by decide, by decide⟩ ?_
    refine V.ldc2 (pc := 15) (z := 63) clX8_245 dX8_doubt_15 ⟨by decide, by decide⟩ ?_
    refine V.callS (pc := 18) (e1 := eX8_in) 3 [vL b, vL 0, vL 63] [] mfX8_in slX8_in mlX8_72 dX8_doubt_18 rfl rfl (Nat.le_of_ble_eq_true rfl) ⟨by decide, by decide, by decide, by decide⟩ ?_
    refine c_X8_in KW hi hl b 0 63 _ (fun hinb => ?_) (fun hinb => ?_)
    · skip
      refine V.qI (pc := 18) rfl rfl ?_
      refine V.if_ne (pc := 21) 27 dX8_doubt_21 (by decide) (fun h21 => ?_) (fun hc => by exact absurd hc (by decide))
      obtain ⟨c, rfl⟩ : ∃ c : Nat, b = (c : Int) := ⟨b.toNat, by omega⟩
      obtain ⟨j, rfl⟩ : ∃ j : Nat, n = (j : Int) := ⟨n.toNat, by omega⟩
      refine V.aload_n (pc := 27) 0 dX8_doubt_27 rfl ?_
      refine V.iload_n (pc := 28) 1 dX8_doubt_28 rfl ?_
      refine V.callV (pc := 29) (e1 := eX8_findRows) (o := 77) (c := 8) 1 [vI ((j : Nat) : Int)] [] mfX8_findRows slX8_findRows mlX8_239 dX8_doubt_29 (kS_77) (by decide) rfl rfl rfl (Nat.le_of_ble_eq_true rfl) ⟨by decide, by decide, by decide, by decide⟩ ?_
      refine c_X8_findRows hi hl σ hC j (by omega) _ (fun cnt f77 f86 f87 f78 f79 f91 f90 hgd h21 hcn hM => ?_)
      refine V.qV (pc := 29) rfl rfl ?_
      refine V.hieq (hi' := (upR (upR (upR (upR (upR (upR hi 91 f91) 79 f79) 78 f78) 87 f87) 86 f86) 77 f77)) ((upR_c ((upR_c ((upR_c ((upR_c ((upR_c r0).trans (rs (by decide) r0))).trans (rs (by decide) (rs (by decide) r0)))).trans (rs (by decide) (rs (by decide) (rs (by decide) r0))))).trans (rs (by decide) (rs (by decide) (rs (by decide) (rs (by decide) r0)))))).trans (rs (by decide) (rs (by decide) (rs (by decide) (rs (by decide) (rs (by decide) r0)))))) ?_
      refine V.aload_n (pc := 32) 0 dX8_doubt_32 rfl ?_
      refine V.iload_n (pc := 33) 2 dX8_doubt_33 rfl ?_
      refine V.callV (pc := 34) (e1 := eX8_doubtful) (o := 77) (c := 8) 1 [vI ((c : Nat) : Int)] [] mfX8_doubtful slX8_doubtful mlX8_242 dX8_doubt_34 (kS_77) (by decide) rfl rfl rfl (Nat.le_of_ble_eq_true rfl) ⟨by decide, by decide, by decide, by decide⟩ ?_
      refine c_X8_doubtful2 (upR (upR (upR (upR (upR (upR hi 91 f91) 79 f79) 78 f78) 87 f87) 86 f86) 77 f77) (upR hl 90 f90) σ hwf j c cnt (by omega) (by omega) h21 hcn hM _ (fun f93 f92 => ?_)
      refine V.qI (pc := 34) rfl rfl ?_
      refine V.hieq (hi' := (upR (upR (upR (upR (upR (upR (upR hi 93 f93) 91 f91) 79 f79) 78 f78) 87 f87) 86 f86) 77 f77)) (rs (by decide) (rs (by decide) (rs (by decide) (rs (by decide) (rs (by decide) (rs (by decide) r0)))))) ?_
      refine V.hleq (hl' := (upR (upR hl 92 f92) 90 f90)) (rs (by decide) r0) ?_
      have hpp3 := pb_p3 j (by omega)
      have hlt : (if tlsF σ c = true then 0 else 2 ^ p3 j - 1) < 2147483648 := by
        have hj3 : j = 1 ∨ j = 2 ∨ j = 3 := by omega
        split
        · decide
        · rcases hj3 with e | e | e <;> subst e <;> decide
      refine V.callS (pc := 37) (e1 := eX8_ones) 1 [vI (((if tlsF σ c = true then 0 else 2 ^ p3 j - 1) : Nat) : Int)] [] mfX8_ones slX8_ones mlX8_236 dX8_doubt_37 rfl rfl (Nat.le_of_ble_eq_true rfl) ⟨by decide, by decide, by decide, by decide⟩ ?_
      refine c_X8_ones KW (upR (upR (upR (upR (upR (upR (upR hi 93 f93) 91 f91) 79 f79) 78 f78) 87 f87) 86 f86) 77 f77) (upR (upR hl 92 f92) 90 f90) (if tlsF σ c = true then 0 else 2 ^ p3 j - 1) (hlt) _ ?_
      refine V.qI (pc := 37) rfl rfl ?_
      refine V.iret (pc := 40) (z := ((pb 32 (if tlsF σ c = true then 0 else 2 ^ p3 j - 1) : Nat) : Int)) dX8_doubt_40 rfl ?_
      by_cases htl : tlsF σ c = true
      · have hA : aDoubt (σ, m, hi 85, im) (j : Int) (c : Int) = 0 := by
          unfold aDoubt
          try dsimp only [gσ, gm, gg, gi]
          refine (if_neg (by first | omega | assumption)).trans ?_
          refine (if_pos (by first | omega | assumption)).trans ?_
          rfl
        rw [hA] at hq
        rw [if_pos htl, show pb 32 0 = 0 from rfl]
        exact hq _ _ (by repeat (first | exact gr0 | refine gr1 (by decide) ?_ | refine gr2 (by decide) ?_)) (RM_up (hl := hl) hC hm hm2 hgr k0 k1 k2 k3 (hgd 8 (by decide) (by decide) (by decide) (by decide)) (hgd 9 (by decide) (by decide) (by decide) (by decide)) (hgd 11 (by decide) (by decide) (by decide) (by decide)) (hgd 13 (by decide) (by decide) (by decide) (by decide)) rfl rfl rfl rfl rfl rfl rfl rfl)
      · have hA : aDoubt (σ, m, hi 85, im) (j : Int) (c : Int) = (p3 j : Nat) := by
          unfold aDoubt
          try dsimp only [gσ, gm, gg, gi]
          refine (if_neg (by first | omega | assumption)).trans ?_
          refine (if_neg htl).trans ?_
          rfl
        rw [hA] at hq
        rw [if_neg htl, hpp3.1]
        exact hq _ _ (by repeat (first | exact gr0 | refine gr1 (by decide) ?_ | refine gr2 (by decide) ?_)) (RM_up (hl := hl) hC hm hm2 hgr k0 k1 k2 k3 (hgd 8 (by decide) (by decide) (by decide) (by decide)) (hgd 9 (by decide) (by decide) (by decide) (by decide)) (hgd 11 (by decide) (by decide) (by decide) (by decide)) (hgd 13 (by decide) (by decide) (by decide) (by decide)) rfl rfl rfl rfl rfl rfl rfl rfl)
    · skip
      refine V.qI (pc := 18) rfl rfl ?_
      refine V.if_ne (pc := 21) 27 dX8_doubt_21 (by decide) (fun hc => by exact absurd hc (by decide)) (fun h21 => ?_)
      refine V.bipush (pc := 24) (z := (-2)) dX8_doubt_24 (by decide +kernel) ⟨by decide, by decide⟩ ?_
      refine V.iret (pc := 26) (z := (-2)) dX8_doubt_26 rfl ?_
      have hA : aDoubt (σ, m, hi 85, im) n b = -2 := by
        unfold aDoubt
        try dsimp only [gσ, gm, gg, gi]
        refine (if_pos (by first | omega | assumption)).trans ?_
        rfl
      rw [hA] at hq
      exact hq _ _ (by repeat (first | exact gr0 | refine gr1 (by decide) ?_ | refine gr2 (by decide) ?_)) hR
  · skip
    refine V.qI (pc := 6) rfl rfl ?_
    refine V.if_eq (pc := 9) 24 dX8_doubt_9 (by decide) (fun h9 => ?_) (fun hc => by exact absurd hc (by decide))
    refine V.bipush (pc := 24) (z := (-2)) dX8_doubt_24 (by decide +kernel) ⟨by decide, by decide⟩ ?_
    refine V.iret (pc := 26) (z := (-2)) dX8_doubt_26 rfl ?_
    have hA : aDoubt (σ, m, hi 85, im) n b = -2 := by
      unfold aDoubt
      try dsimp only [gσ, gm, gg, gi]
      refine (if_pos (by first | omega | assumption)).trans ?_
      rfl
    rw [hA] at hq
    exact hq _ _ (by repeat (first | exact gr0 | refine gr1 (by decide) ?_ | refine gr2 (by decide) ?_)) hR

set_option maxRecDepth 100000 in
theorem c_X8_few (hi hl : HI) (σ : SG) (m : Nat) (g : Nat → Int) (im : Nat → Option SG) (hR : RMo hi hl (σ, m, g, im)) (n : Int) (Q : QT) (hq : ∀ hi' hl' : HI, FrM hi hl hi' hl' → RMo hi' hl' (σ, m, g, im) → Q (some (vI (aFew (σ, m, g, im) n))) KW hi' hl') : Con eX8_few [vR 77, vI n] KW hi hl Q := by
  refine Con.ofV (by decide +kernel) (Nat.le_of_ble_eq_true rfl) ?_
  show V eX8_few none KW 0 [(0, vR 77), (1, vI n)] [] hi hl 0 0 Q
  refine V.hieq (hi' := (upR hi 93 (hi 93))) (by rw [upR_id]) ?_
  refine V.hleq (hl' := (upR hl 92 (hl 92))) (by rw [upR_id]) ?_
  obtain ⟨hC, ⟨hm, hm2, hg5, hgr⟩, k0, k1, k2, k3⟩ := RM_o hR
  subst hg5
  have hwf := hC.1
  have hn16 := hwf.2.2.1
  have hbg := hwf.2.2.2.2.1
  refine V.iload_n (pc := 0) 1 dX8_few_0 rfl ?_
  refine V.i2l (pc := 1) dX8_few_1 ?_
  refine V.lconst (pc := 2) (z := 1) dX8_few_2 (by decide +kernel) ⟨by decide, by decide⟩ ?_
  refine V.ldc2 (pc := 3) (z := 3) clX8_93 dX8_few_3 ⟨by decide, by decide⟩ ?_
  refine V.callS (pc := 6) (e1 := eX8_in) 3 [vL n, vL 1, vL 3] [] mfX8_in slX8_in mlX8_72 dX8_few_6 rfl rfl (Nat.le_of_ble_eq_true rfl) ⟨by decide, by decide, by decide, by decide⟩ ?_
  refine c_X8_in KW (upR hi 93 (hi 93)) (upR hl 92 (hl 92)) n 1 3 _ (fun hinn => ?_) (fun hinn => ?_)
  · skip
    refine V.qI (pc := 6) rfl rfl ?_
    refine V.if_ne (pc := 9) 15 dX8_few_9 (by decide) (fun h9 => ?_) (fun hc => by exact absurd hc (by decide))
    obtain ⟨j, rfl⟩ : ∃ j : Nat, n = (j : Int) := ⟨n.toNat, by omega⟩
    refine V.aload_n (pc := 15) 0 dX8_few_15 rfl ?_
    refine V.iload_n (pc := 16) 1 dX8_few_16 rfl ?_
    refine V.callV (pc := 17) (e1 := eX8_findRows) (o := 77) (c := 8) 1 [vI ((j : Nat) : Int)] [] mfX8_findRows slX8_findRows mlX8_239 dX8_few_17 (kS_77) (by decide) rfl rfl rfl (Nat.le_of_ble_eq_true rfl) ⟨by decide, by decide, by decide, by decide⟩ ?_
    refine c_X8_findRows (upR hi 93 (hi 93)) (upR hl 92 (hl 92)) σ hC j (by omega) _ (fun cnt f77 f86 f87 f78 f79 f91 f90 hgd h21 hcn hM => ?_)
    refine V.qV (pc := 17) rfl rfl ?_
    refine V.hieq (hi' := (upR (upR (upR (upR (upR (upR (upR hi 91 f91) 79 f79) 78 f78) 87 f87) 86 f86) 77 f77) 93 (hi 93))) ((upR_c ((upR_c ((upR_c ((upR_c ((upR_c (rs (by decide) r0)).trans (rs (by decide) (rs (by decide) r0)))).trans (rs (by decide) (rs (by decide) (rs (by decide) r0))))).trans (rs (by decide) (rs (by decide) (rs (by decide) (rs (by decide) r0)))))).trans (rs (by decide) (rs (by decide) (rs (by decide) (rs (by decide) (rs (by decide) r0))))))).trans (rs (by decide) (rs (by decide) (rs (by decide) (rs (by decide) (rs (by decide) (rs (by decide) r0))))))) ?_
    refine V.hleq (hl' := (upR (upR hl 90 f90) 92 (hl 92))) (rs (by decide) r0) ?_
    have hpp3 := pb_p3 j (by omega)
    have hlt : 2 ^ p3 j - 1 < 2147483648 := by
      have hj3 : j = 1 ∨ j = 2 ∨ j = 3 := by omega
      rcases hj3 with e | e | e <;> subst e <;> decide
    refine V.bipush (pc := 20) (z := (-6)) dX8_few_20 (by decide +kernel) ⟨by decide, by decide⟩ ?_
    refine V.istore_n (pc := 22) (i := 2) dX8_few_22 rfl (by decide) (ls' := [(2, vI (-6)), (0, vR 77), (1, vI ((j : Nat) : Int))]) rfl ?_
    refine V.iconst (pc := 23) (z := 0) dX8_few_23 rfl ⟨by decide, by decide⟩ ?_
    refine V.istore_n (pc := 24) (i := 3) dX8_few_24 rfl (by decide) (ls' := [(3, vI 0), (2, vI (-6)), (0, vR 77), (1, vI ((j : Nat) : Int))]) rfl ?_
    have lp25 : ∀ (fu25 : Nat) (k : Nat) (r93 : Nat → Int) (r92 : Nat → Int), (k ≤ 64) → 64 - k < fu25 → V eX8_few none KW 25 [(0, vR 77), (1, vI ((j : Nat) : Int)), (2, vI (fbF (tlsF σ) (k - 1))), (3, vI ((k : Nat) : Int))] [] (upR (upR (upR (upR (upR (upR (upR hi 91 f91) 79 f79) 78 f78) 87 f87) 86 f86) 77 f77) 93 r93) (upR (upR hl 90 f90) 92 r92) 0 0 Q := by
      intro fu25
      induction fu25 with
      | zero => intro k r93 r92 hk hm25; exact absurd hm25 (Nat.not_lt_zero _)
      | succ fu25 ih25 =>
        intro k r93 r92 hk hm25
        have hfb := fbF_b (tlsF σ) (k - 1)
        refine V.iload_n (pc := 25) 3 dX8_few_25 rfl ?_
        refine V.bipush (pc := 26) (z := 64) dX8_few_26 (by decide +kernel) ⟨by decide, by decide⟩ ?_
        refine V.icmp_ge (pc := 28) 78 dX8_few_28 (by decide) (fun h28 => ?_) (fun h28 => ?_)
        · skip
          refine V.iload_n (pc := 78) 2 dX8_few_78 rfl ?_
          refine V.iret (pc := 79) (z := (fbF (tlsF σ) (k - 1))) dX8_few_79 rfl ?_
          have e64 : k = 64 := by omega
          subst e64
          have hA : aFew (σ, m, hi 85, im) (j : Int) = fbF (tlsF σ) 63 := by
            unfold aFew
            try dsimp only [gσ, gm, gg, gi]
            refine (if_neg (by first | omega | assumption)).trans ?_
            rfl
          rw [hA] at hq
          exact hq _ _ (by repeat (first | exact gr0 | refine gr1 (by decide) ?_ | refine gr2 (by decide) ?_)) (RM_up (hl := hl) hC hm hm2 hgr k0 k1 k2 k3 (hgd 8 (by decide) (by decide) (by decide) (by decide)) (hgd 9 (by decide) (by decide) (by decide) (by decide)) (hgd 11 (by decide) (by decide) (by decide) (by decide)) (hgd 13 (by decide) (by decide) (by decide) (by decide)) rfl rfl rfl rfl rfl rfl rfl rfl)
        · skip
          refine V.iload_n (pc := 31) 2 dX8_few_31 rfl ?_
          refine V.if_lt (pc := 32) 46 dX8_few_32 (by decide) (fun h32 => ?_) (fun h32 => ?_)
          · have hyes : (fbF (tlsF σ) (k - 1)) = -6 ∨ bc k < bc (fbF (tlsF σ) (k - 1)).toNat := Or.inl (by omega)
            refine V.iconst (pc := 46) (z := 1) dX8_few_46 rfl ⟨by decide, by decide⟩ ?_
            refine V.goto (pc := 47) 51 dX8_few_47 (by decide) ?_
            refine V.istore (pc := 51) (i := 4) dX8_few_51 (by decide) (ls' := [(4, vI 1), (0, vR 77), (1, vI ((j : Nat) : Int)), (2, vI (fbF (tlsF σ) (k - 1))), (3, vI ((k : Nat) : Int))]) rfl ?_
            refine V.iload (pc := 53) 0 dX8_few_53 rfl ?_
            refine V.if_eq (pc := 55) 70 dX8_few_55 (by decide) (fun hc => by exact absurd hc (by decide)) (fun h55 => ?_)
            refine V.aload_n (pc := 58) 1 dX8_few_58 rfl ?_
            refine V.iload_n (pc := 59) 4 dX8_few_59 rfl ?_
            refine V.callV (pc := 60) (e1 := eX8_doubtful) (o := 77) (c := 8) 1 [vI ((k : Nat) : Int)] [] mfX8_doubtful slX8_doubtful mlX8_242 dX8_few_60 (kS_77) (by decide) rfl rfl rfl (Nat.le_of_ble_eq_true rfl) ⟨by decide, by decide, by decide, by decide⟩ ?_
            refine c_X8_doubtful2 (upR (upR (upR (upR (upR (upR (upR hi 91 f91) 79 f79) 78 f78) 87 f87) 86 f86) 77 f77) 93 r93) (upR (upR hl 90 f90) 92 r92) σ hwf j k cnt (by omega) (by omega) h21 hcn hM _ (fun f93b f92b => ?_)
            refine V.qI (pc := 60) rfl rfl ?_
            refine V.hieq (hi' := (upR (upR (upR (upR (upR (upR (upR hi 91 f91) 79 f79) 78 f78) 87 f87) 86 f86) 77 f77) 93 f93b)) r1 ?_
            refine V.hleq (hl' := (upR (upR hl 90 f90) 92 f92b)) r1 ?_
            refine V.if_ne (pc := 63) 70 dX8_few_63 (by decide) (fun h63 => ?_) (fun h63 => ?_)
            · have htk : tlsF σ k = false := by cases hx : tlsF σ k; { rfl }; { rw [hx] at h63; exact absurd rfl h63 }
              refine V.iload_n (pc := 70) 3 dX8_few_70 rfl ?_
              refine V.istore_n (pc := 71) (i := 2) dX8_few_71 rfl (by decide) (ls' := [(2, vI (fbF (tlsF σ) (k - 1))), (4, vI 1), (0, vR 77), (1, vI ((j : Nat) : Int)), (3, vI ((k : Nat) : Int))]) rfl ?_
              refine V.iinc (pc := 72) (r := ((k + 1 : Nat) : Int)) 4 dX8_few_72 rfl (w32_of (by omega) (by omega) (by omega)) (by decide) (ls' := [(3, vI ((k + 1 : Nat) : Int)), (2, vI (fbF (tlsF σ) (k - 1))), (4, vI 1), (0, vR 77), (1, vI ((j : Nat) : Int))]) rfl ?_
              refine V.goto (pc := 75) 25 dX8_few_75 (by decide) ?_
              refine V.locs [3, 4, 1, 0] (ls' := [(0, vR 77), (1, vI ((j : Nat) : Int)), (2, vI (fbF (tlsF σ) (k - 1))), (3, vI ((k + 1 : Nat) : Int))]) rfl ?_
              have e : fbF (tlsF σ) (k + 1 - 1) = (fbF (tlsF σ) (k - 1)) := by rw [Nat.add_sub_cancel]; exact fb_d htk
              rw [← e]
              exact ih25 (k + 1) f93b f92b (by omega) (by omega)
            · have htk : tlsF σ k = true := by cases hx : tlsF σ k; { rw [hx] at h63; have := hpp3.2; have h63 : ¬ (((2 ^ p3 j - 1 : Nat) : Int) ≠ 0) := h63; omega }; { rfl }
              refine V.iload_n (pc := 66) 4 dX8_few_66 rfl ?_
              refine V.goto (pc := 67) 71 dX8_few_67 (by decide) ?_
              refine V.istore_n (pc := 71) (i := 2) dX8_few_71 rfl (by decide) (ls' := [(2, vI ((k : Nat) : Int)), (4, vI 1), (0, vR 77), (1, vI ((j : Nat) : Int)), (3, vI ((k : Nat) : Int))]) rfl ?_
              refine V.iinc (pc := 72) (r := ((k + 1 : Nat) : Int)) 4 dX8_few_72 rfl (w32_of (by omega) (by omega) (by omega)) (by decide) (ls' := [(3, vI ((k + 1 : Nat) : Int)), (2, vI ((k : Nat) : Int)), (4, vI 1), (0, vR 77), (1, vI ((j : Nat) : Int))]) rfl ?_
              refine V.goto (pc := 75) 25 dX8_few_75 (by decide) ?_
              refine V.locs [3, 4, 1, 0] (ls' := [(0, vR 77), (1, vI ((j : Nat) : Int)), (2, vI ((k : Nat) : Int)), (3, vI ((k + 1 : Nat) : Int))]) rfl ?_
              have e : fbF (tlsF σ) (k + 1 - 1) = ((k : Nat) : Int) := by rw [Nat.add_sub_cancel]; exact fb_y htk hyes
              rw [← e]
              exact ih25 (k + 1) f93b f92b (by omega) (by omega)
          · skip
            refine V.iload_n (pc := 35) 3 dX8_few_35 rfl ?_
            refine V.callS (pc := 36) (e1 := eX8_ones) 1 [vI ((k : Nat) : Int)] [] mfX8_ones slX8_ones mlX8_236 dX8_few_36 rfl rfl (Nat.le_of_ble_eq_true rfl) ⟨by decide, by decide, by decide, by decide⟩ ?_
            refine c_X8_ones KW (upR (upR (upR (upR (upR (upR (upR hi 91 f91) 79 f79) 78 f78) 87 f87) 86 f86) 77 f77) 93 r93) (upR (upR hl 90 f90) 92 r92) k (by omega) _ ?_
            refine V.qI (pc := 36) rfl rfl ?_
            have hpk := pb_bc k (by omega)
            refine V.iload_n (pc := 39) 2 dX8_few_39 rfl ?_
            refine V.top (v' := vI (((fbF (tlsF σ) (k - 1)).toNat : Nat) : Int)) (congrArg vI (Int.toNat_of_nonneg (by omega)).symm) ?_
            refine V.callS (pc := 40) (e1 := eX8_ones) 1 [vI (((fbF (tlsF σ) (k - 1)).toNat : Nat) : Int)] [vI ((pb 32 k : Nat) : Int)] mfX8_ones slX8_ones mlX8_236 dX8_few_40 rfl rfl (Nat.le_of_ble_eq_true rfl) ⟨by decide, by decide, by decide, by decide⟩ ?_
            refine c_X8_ones KW (upR (upR (upR (upR (upR (upR (upR hi 91 f91) 79 f79) 78 f78) 87 f87) 86 f86) 77 f77) 93 r93) (upR (upR hl 90 f90) 92 r92) ((fbF (tlsF σ) (k - 1)).toNat) (by omega) _ ?_
            refine V.qI (pc := 40) rfl rfl ?_
            have hpf := pb_bc (fbF (tlsF σ) (k - 1)).toNat (by omega)
            refine V.icmp_ge (pc := 43) 50 dX8_few_43 (by decide) (fun h43 => ?_) (fun h43 => ?_)
            · have hno : ¬ ((fbF (tlsF σ) (k - 1)) = -6 ∨ bc k < bc (fbF (tlsF σ) (k - 1)).toNat) := by rw [← hpk, ← hpf]; omega
              refine V.iconst (pc := 50) (z := 0) dX8_few_50 rfl ⟨by decide, by decide⟩ ?_
              refine V.istore (pc := 51) (i := 4) dX8_few_51 (by decide) (ls' := [(4, vI 0), (0, vR 77), (1, vI ((j : Nat) : Int)), (2, vI (fbF (tlsF σ) (k - 1))), (3, vI ((k : Nat) : Int))]) rfl ?_
              refine V.iload (pc := 53) 0 dX8_few_53 rfl ?_
              refine V.if_eq (pc := 55) 70 dX8_few_55 (by decide) (fun h55 => ?_) (fun hc => by exact absurd hc (by decide))
              refine V.iload_n (pc := 70) 3 dX8_few_70 rfl ?_
              refine V.istore_n (pc := 71) (i := 2) dX8_few_71 rfl (by decide) (ls' := [(2, vI (fbF (tlsF σ) (k - 1))), (4, vI 0), (0, vR 77), (1, vI ((j : Nat) : Int)), (3, vI ((k : Nat) : Int))]) rfl ?_
              refine V.iinc (pc := 72) (r := ((k + 1 : Nat) : Int)) 4 dX8_few_72 rfl (w32_of (by omega) (by omega) (by omega)) (by decide) (ls' := [(3, vI ((k + 1 : Nat) : Int)), (2, vI (fbF (tlsF σ) (k - 1))), (4, vI 0), (0, vR 77), (1, vI ((j : Nat) : Int))]) rfl ?_
              refine V.goto (pc := 75) 25 dX8_few_75 (by decide) ?_
              refine V.locs [3, 4, 1, 0] (ls' := [(0, vR 77), (1, vI ((j : Nat) : Int)), (2, vI (fbF (tlsF σ) (k - 1))), (3, vI ((k + 1 : Nat) : Int))]) rfl ?_
              have e : fbF (tlsF σ) (k + 1 - 1) = (fbF (tlsF σ) (k - 1)) := by rw [Nat.add_sub_cancel]; exact fb_n hno
              rw [← e]
              exact ih25 (k + 1) r93 r92 (by omega) (by omega)
            · have hyes : (fbF (tlsF σ) (k - 1)) = -6 ∨ bc k < bc (fbF (tlsF σ) (k - 1)).toNat := Or.inr (by rw [← hpk, ← hpf]; omega)
              refine V.iconst (pc := 46) (z := 1) dX8_few_46 rfl ⟨by decide, by decide⟩ ?_
              refine V.goto (pc := 47) 51 dX8_few_47 (by decide) ?_
              refine V.istore (pc := 51) (i := 4) dX8_few_51 (by decide) (ls' := [(4, vI 1), (0, vR 77), (1, vI ((j : Nat) : Int)), (2, vI (fbF (tlsF σ) (k - 1))), (3, vI ((k : Nat) : Int))]) rfl ?_
              refine V.iload (pc := 53) 0 dX8_few_53 rfl ?_
              refine V.if_eq (pc := 55) 70 dX8_few_55 (by decide) (fun hc => by exact absurd hc (by decide)) (fun h55 => ?_)
              refine V.aload_n (pc := 58) 1 dX8_few_58 rfl ?_
              refine V.iload_n (pc := 59) 4 dX8_few_59 rfl ?_
              refine V.callV (pc := 60) (e1 := eX8_doubtful) (o := 77) (c := 8) 1 [vI ((k : Nat) : Int)] [] mfX8_doubtful slX8_doubtful mlX8_242 dX8_few_60 (kS_77) (by decide) rfl rfl rfl (Nat.le_of_ble_eq_true rfl) ⟨by decide, by decide, by decide, by decide⟩ ?_
              refine c_X8_doubtful2 (upR (upR (upR (upR (upR (upR (upR hi 91 f91) 79 f79) 78 f78) 87 f87) 86 f86) 77 f77) 93 r93) (upR (upR hl 90 f90) 92 r92) σ hwf j k cnt (by omega) (by omega) h21 hcn hM _ (fun f93b f92b => ?_)
              refine V.qI (pc := 60) rfl rfl ?_
              refine V.hieq (hi' := (upR (upR (upR (upR (upR (upR (upR hi 91 f91) 79 f79) 78 f78) 87 f87) 86 f86) 77 f77) 93 f93b)) r1 ?_
              refine V.hleq (hl' := (upR (upR hl 90 f90) 92 f92b)) r1 ?_
              refine V.if_ne (pc := 63) 70 dX8_few_63 (by decide) (fun h63 => ?_) (fun h63 => ?_)
              · have htk : tlsF σ k = false := by cases hx : tlsF σ k; { rfl }; { rw [hx] at h63; exact absurd rfl h63 }
                refine V.iload_n (pc := 70) 3 dX8_few_70 rfl ?_
                refine V.istore_n (pc := 71) (i := 2) dX8_few_71 rfl (by decide) (ls' := [(2, vI (fbF (tlsF σ) (k - 1))), (4, vI 1), (0, vR 77), (1, vI ((j : Nat) : Int)), (3, vI ((k : Nat) : Int))]) rfl ?_
                refine V.iinc (pc := 72) (r := ((k + 1 : Nat) : Int)) 4 dX8_few_72 rfl (w32_of (by omega) (by omega) (by omega)) (by decide) (ls' := [(3, vI ((k + 1 : Nat) : Int)), (2, vI (fbF (tlsF σ) (k - 1))), (4, vI 1), (0, vR 77), (1, vI ((j : Nat) : Int))]) rfl ?_
                refine V.goto (pc := 75) 25 dX8_few_75 (by decide) ?_
                refine V.locs [3, 4, 1, 0] (ls' := [(0, vR 77), (1, vI ((j : Nat) : Int)), (2, vI (fbF (tlsF σ) (k - 1))), (3, vI ((k + 1 : Nat) : Int))]) rfl ?_
                have e : fbF (tlsF σ) (k + 1 - 1) = (fbF (tlsF σ) (k - 1)) := by rw [Nat.add_sub_cancel]; exact fb_d htk
                rw [← e]
                exact ih25 (k + 1) f93b f92b (by omega) (by omega)
              · have htk : tlsF σ k = true := by cases hx : tlsF σ k; { rw [hx] at h63; have := hpp3.2; have h63 : ¬ (((2 ^ p3 j - 1 : Nat) : Int) ≠ 0) := h63; omega }; { rfl }
                refine V.iload_n (pc := 66) 4 dX8_few_66 rfl ?_
                refine V.goto (pc := 67) 71 dX8_few_67 (by decide) ?_
                refine V.istore_n (pc := 71) (i := 2) dX8_few_71 rfl (by decide) (ls' := [(2, vI ((k : Nat) : Int)), (4, vI 1), (0, vR 77), (1, vI ((j : Nat) : Int)), (3, vI ((k : Nat) : Int))]) rfl ?_
                refine V.iinc (pc := 72) (r := ((k + 1 : Nat) : Int)) 4 dX8_few_72 rfl (w32_of (by omega) (by omega) (by omega)) (by decide) (ls' := [(3, vI ((k + 1 : Nat) : Int)), (2, vI ((k : Nat) : Int)), (4, vI 1), (0, vR 77), (1, vI ((j : Nat) : Int))]) rfl ?_
                refine V.goto (pc := 75) 25 dX8_few_75 (by decide) ?_
                refine V.locs [3, 4, 1, 0] (ls' := [(0, vR 77), (1, vI ((j : Nat) : Int)), (2, vI ((k : Nat) : Int)), (3, vI ((k + 1 : Nat) : Int))]) rfl ?_
                have e : fbF (tlsF σ) (k + 1 - 1) = ((k : Nat) : Int) := by rw [Nat.add_sub_cancel]; exact fb_y htk hyes
                rw [← e]
                exact ih25 (k + 1) f93b f92b (by omega) (by omega)
    refine V.locs [2, 3, 1, 0] (ls' := [(0, vR 77), (1, vI ((j : Nat) : Int)), (2, vI (-6)), (3, vI 0)]) rfl ?_
    exact lp25 _ 0 (hi 93) (hl 92) (by omega) (Nat.lt_succ_self _)
  · skip
    refine V.qI (pc := 6) rfl rfl ?_
    refine V.if_ne (pc := 9) 15 dX8_few_9 (by decide) (fun hc => by exact absurd hc (by decide)) (fun h9 => ?_)
    refine V.bipush (pc := 12) (z := (-2)) dX8_few_12 (by decide +kernel) ⟨by decide, by decide⟩ ?_
    refine V.iret (pc := 14) (z := (-2)) dX8_few_14 rfl ?_
    have hA : aFew (σ, m, hi 85, im) n = -2 := by
      unfold aFew
      try dsimp only [gσ, gm, gg, gi]
      refine (if_pos (by first | omega | assumption)).trans ?_
      rfl
    rw [hA] at hq
    exact hq _ _ (by repeat (first | exact gr0 | refine gr1 (by decide) ?_ | refine gr2 (by decide) ?_)) hR

