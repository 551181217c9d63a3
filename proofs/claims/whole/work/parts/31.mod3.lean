set_option maxRecDepth 100000 in
theorem c_X8_faultOfDays (hi hl : HI) (m : Nat) (hm : hi 77 13 = (m : Nat)) (hm2 : m ≤ 48) (hg : ∀ i, i < m → 33 ≤ hi 85 i ∧ hi 85 i ≤ 126) (Q : QT) (hq : Q (some (vI (dayF (hi 85) m))) KW hi hl) : Con eX8_faultOfDays [vR 77] KW hi hl Q := by
  refine Con.ofV (by decide +kernel) (Nat.le_of_ble_eq_true rfl) ?_
  show V eX8_faultOfDays none KW 0 [(0, vR 77)] [] hi hl 0 0 Q
  refine V.iconst (pc := 0) (z := 0) dX8_faultOfDays_0 rfl ⟨by decide, by decide⟩ ?_
  refine V.istore_n (pc := 1) (i := 1) dX8_faultOfDays_1 rfl (by decide) (ls' := [(1, vI 0), (0, vR 77)]) rfl ?_
  refine V.iconst (pc := 2) (z := 0) dX8_faultOfDays_2 rfl ⟨by decide, by decide⟩ ?_
  refine V.istore_n (pc := 3) (i := 2) dX8_faultOfDays_3 rfl (by decide) (ls' := [(2, vI 0), (1, vI 0), (0, vR 77)]) rfl ?_
  refine V.iconst (pc := 4) (z := 0) dX8_faultOfDays_4 rfl ⟨by decide, by decide⟩ ?_
  refine V.istore_n (pc := 5) (i := 3) dX8_faultOfDays_5 rfl (by decide) (ls' := [(3, vI 0), (2, vI 0), (1, vI 0), (0, vR 77)]) rfl ?_
  have lp6 : ∀ (fu6 : Nat) (k : Nat) (s : PSt), (k ≤ m) → (dF (hi 85) k = (-6, s)) → (s.1 = 1 → 1 ≤ k ∧ s.2.1 = spOf (hi 85 (k - 1))) → m - k < fu6 → V eX8_faultOfDays none KW 6 [(0, vR 77), (1, vI ((rst s.1 : Nat) : Int)), (2, vI ((rmn s : Nat) : Int)), (3, vI ((k : Nat) : Int))] [] hi hl 0 0 Q := by
    intro fu6
    induction fu6 with
    | zero => intro k s hk hE hsp hm6; exact absurd hm6 (Nat.not_lt_zero _)
    | succ fu6 ih6 =>
      intro k s hk hE hsp hm6
      obtain ⟨a1, a2, a3, a4, a5, a6, a7⟩ := dF_n hE
      have hst := rst_f a1
      have hmn := rmn_f s
      refine V.iload_n (pc := 6) 3 dX8_faultOfDays_6 rfl ?_
      refine V.aload_n (pc := 7) 0 dX8_faultOfDays_7 rfl ?_
      refine V.gi (pc := 8) 8 13 ((m : Nat) : Int) flX8_113 dX8_faultOfDays_8 (kS_77) (by decide) (by decide) rfl (hm) ?_
      refine V.icmp_ge (pc := 11) 155 dX8_faultOfDays_11 (by decide) (fun h11 => ?_) (fun h11 => ?_)
      · skip
        refine V.iload_n (pc := 155) 1 dX8_faultOfDays_155 rfl ?_
        refine V.iconst (pc := 156) (z := 1) dX8_faultOfDays_156 rfl ⟨by decide, by decide⟩ ?_
        refine V.icmp_eq (pc := 157) 165 dX8_faultOfDays_157 (by decide) (fun h157 => ?_) (fun h157 => ?_)
        · skip
          refine V.aload_n (pc := 165) 0 dX8_faultOfDays_165 rfl ?_
          refine V.gi (pc := 166) 8 13 ((m : Nat) : Int) flX8_113 dX8_faultOfDays_166 (kS_77) (by decide) (by decide) rfl (hm) ?_
          refine V.goto (pc := 169) 174 dX8_faultOfDays_169 (by decide) ?_
          refine V.iret (pc := 174) (z := ((m : Nat) : Int)) dX8_faultOfDays_174 rfl ?_
          have ek : k = m := by omega
          subst ek
          rw [dayF_mid hE (by omega)] at hq
          exact hq
        · skip
          refine V.iload_n (pc := 160) 1 dX8_faultOfDays_160 rfl ?_
          refine V.iconst (pc := 161) (z := 3) dX8_faultOfDays_161 rfl ⟨by decide, by decide⟩ ?_
          refine V.icmp_ne (pc := 162) 172 dX8_faultOfDays_162 (by decide) (fun h162 => ?_) (fun h162 => ?_)
          · skip
            refine V.bipush (pc := 172) (z := (-6)) dX8_faultOfDays_172 (by decide +kernel) ⟨by decide, by decide⟩ ?_
            refine V.iret (pc := 174) (z := (-6)) dX8_faultOfDays_174 rfl ?_
            have ek : k = m := by omega
            subst ek
            rw [dayF_end hE (by omega)] at hq
            exact hq
          · skip
            refine V.aload_n (pc := 165) 0 dX8_faultOfDays_165 rfl ?_
            refine V.gi (pc := 166) 8 13 ((m : Nat) : Int) flX8_113 dX8_faultOfDays_166 (kS_77) (by decide) (by decide) rfl (hm) ?_
            refine V.goto (pc := 169) 174 dX8_faultOfDays_169 (by decide) ?_
            refine V.iret (pc := 174) (z := ((m : Nat) : Int)) dX8_faultOfDays_174 rfl ?_
            have ek : k = m := by omega
            subst ek
            rw [dayF_mid hE (by omega)] at hq
            exact hq
      · skip
        refine V.aload_n (pc := 14) 0 dX8_faultOfDays_14 rfl ?_
        refine V.gr (pc := 15) 8 12 85 flX8_31 dX8_faultOfDays_15 (kS_77) (by decide) (by decide) rfl (kR_77_12) ?_
        refine V.iload_n (pc := 18) 3 dX8_faultOfDays_18 rfl ?_
        refine V.ia (pc := 19) (len := 48) k (hi 85 k) dX8_faultOfDays_19 (kS_85) (rfl) (by omega) (rfl) ?_
        have hgk := hg k (by omega)
        refine V.istore (pc := 20) (i := 4) dX8_faultOfDays_20 (by decide) (ls' := [(4, vI (hi 85 k)), (0, vR 77), (1, vI ((rst s.1 : Nat) : Int)), (2, vI ((rmn s : Nat) : Int)), (3, vI ((k : Nat) : Int))]) rfl ?_
        refine V.iload_n (pc := 22) 2 dX8_faultOfDays_22 rfl ?_
        refine V.iconst (pc := 23) (z := 1) dX8_faultOfDays_23 rfl ⟨by decide, by decide⟩ ?_
        refine V.icmp_ne (pc := 24) 55 dX8_faultOfDays_24 (by decide) (fun h24 => ?_) (fun h24 => ?_)
        · skip
          refine V.iload_n (pc := 55) 2 dX8_faultOfDays_55 rfl ?_
          refine V.iconst (pc := 56) (z := 3) dX8_faultOfDays_56 rfl ⟨by decide, by decide⟩ ?_
          refine V.icmp_ne (pc := 57) 75 dX8_faultOfDays_57 (by decide) (fun h57 => ?_) (fun h57 => ?_)
          · skip
            refine V.iload_n (pc := 75) 2 dX8_faultOfDays_75 rfl ?_
            refine V.iconst (pc := 76) (z := 2) dX8_faultOfDays_76 rfl ⟨by decide, by decide⟩ ?_
            refine V.icmp_ne (pc := 77) 100 dX8_faultOfDays_77 (by decide) (fun h77 => ?_) (fun h77 => ?_)
            · skip
              refine V.iload_n (pc := 100) 3 dX8_faultOfDays_100 rfl ?_
              refine V.bipush (pc := 101) (z := 16) dX8_faultOfDays_101 (by decide +kernel) ⟨by decide, by decide⟩ ?_
              refine V.icmp_ge (pc := 103) 147 dX8_faultOfDays_103 (by decide) (fun h103 => ?_) (fun h103 => ?_)
              · skip
                refine V.iload_n (pc := 147) 4 dX8_faultOfDays_147 rfl ?_
                refine V.iret (pc := 148) (z := ((k : Nat) : Int)) dX8_faultOfDays_148 rfl ?_
                have e := dayF_bad hE (by unfold pstep; rw [if_neg (by omega), if_neg (by omega), if_pos (by first | omega | exact Or.inl (spOf_n (by omega)) | (have q3 := hmn.2 (by omega); omega))]) (show k < m by omega)
                rw [e] at hq
                exact hq
              · skip
                refine V.iload (pc := 106) 0 dX8_faultOfDays_106 rfl ?_
                refine V.bipush (pc := 108) (z := 88) dX8_faultOfDays_108 (by decide +kernel) ⟨by decide, by decide⟩ ?_
                refine V.icmp_eq (pc := 110) 128 dX8_faultOfDays_110 (by decide) (fun h110 => ?_) (fun h110 => ?_)
                · skip
                  have hsy : (hi 85 k) = 88 ∨ (hi 85 k) = 109 ∨ (65 ≤ (hi 85 k) ∧ (hi 85 k) ≤ 70) := by omega
                  have hs2 := spOf_y hsy
                  have hE2 : dF (hi 85) (k + 1) = (-6, pBeg (hi 85 k) s) := dF_ok hE (by unfold pstep; rw [if_neg (by omega), if_neg (by omega), if_neg (by have q3 := hmn.2 (by omega); omega)])
                  refine V.iinc (pc := 128) (r := ((rmn s + 1 : Nat) : Int)) 3 dX8_faultOfDays_128 rfl (w32_of (by omega) (by omega) (by omega)) (by decide) (ls' := [(2, vI ((rmn s + 1 : Nat) : Int)), (4, vI (hi 85 k)), (0, vR 77), (1, vI ((rst s.1 : Nat) : Int)), (3, vI ((k : Nat) : Int))]) rfl ?_
                  refine V.iload (pc := 131) 1 dX8_faultOfDays_131 rfl ?_
                  refine V.bipush (pc := 133) (z := 109) dX8_faultOfDays_133 (by decide +kernel) ⟨by decide, by decide⟩ ?_
                  refine V.icmp_ne (pc := 135) 142 dX8_faultOfDays_135 (by decide) (fun h135 => ?_) (fun h135 => ?_)
                  · skip
                    refine V.iconst (pc := 142) (z := 1) dX8_faultOfDays_142 rfl ⟨by decide, by decide⟩ ?_
                    refine V.top (v' := vI ((rst (pBeg (hi 85 k) s).1 : Nat) : Int)) (by rw [show (pBeg (hi 85 k) s).1 = 1 by show (if spOf (hi 85 k) = 7 then 2 else 1) = 1; rw [if_neg (fun q => by have := hs2.2.mp q; omega)]]; rfl) ?_
                    refine V.istore_n (pc := 143) (i := 1) dX8_faultOfDays_143 rfl (by decide) (ls' := [(1, vI ((rst (pBeg (hi 85 k) s).1 : Nat) : Int)), (2, vI ((rmn s + 1 : Nat) : Int)), (4, vI (hi 85 k)), (0, vR 77), (3, vI ((k : Nat) : Int))]) rfl ?_
                    refine V.goto (pc := 144) 149 dX8_faultOfDays_144 (by decide) ?_
                    refine V.iinc (pc := 149) (r := ((k + 1 : Nat) : Int)) 4 dX8_faultOfDays_149 rfl (w32_of (by omega) (by omega) (by omega)) (by decide) (ls' := [(3, vI ((k + 1 : Nat) : Int)), (1, vI ((rst (pBeg (hi 85 k) s).1 : Nat) : Int)), (2, vI ((rmn s + 1 : Nat) : Int)), (4, vI (hi 85 k)), (0, vR 77)]) rfl ?_
                    refine V.goto (pc := 152) 6 dX8_faultOfDays_152 (by decide) ?_
                    refine V.locs [4, 1, 2, 0] (ls' := [(0, vR 77), (1, vI ((rst (pBeg (hi 85 k) s).1 : Nat) : Int)), (2, vI ((rmn s + 1 : Nat) : Int)), (3, vI ((k + 1 : Nat) : Int))]) rfl ?_
                    have hrn : (rmn s + 1) = rmn (pBeg (hi 85 k) s) := by have q := (rmn_f (pBeg (hi 85 k) s)).1 (by show (if spOf (hi 85 k) = 7 then 2 else 1) = 1 ∨ (if spOf (hi 85 k) = 7 then 2 else 1) = 2; split <;> omega); have q2 : (pBeg (hi 85 k) s).2.2.1 = s.2.2.1 := rfl; have q3 := hmn.2 (by omega); omega
                    rw [hrn]
                    exact ih6 (k + 1) (pBeg (hi 85 k) s) (by omega) (hE2) (fun _ => ⟨by omega, rfl⟩) (by omega)
                  · skip
                    refine V.iconst (pc := 138) (z := 3) dX8_faultOfDays_138 rfl ⟨by decide, by decide⟩ ?_
                    refine V.top (v' := vI ((rst (pBeg (hi 85 k) s).1 : Nat) : Int)) (by rw [show (pBeg (hi 85 k) s).1 = 2 by show (if spOf (hi 85 k) = 7 then 2 else 1) = 2; rw [if_pos (hs2.2.mpr (by omega))]]; rfl) ?_
                    refine V.goto (pc := 139) 143 dX8_faultOfDays_139 (by decide) ?_
                    refine V.istore_n (pc := 143) (i := 1) dX8_faultOfDays_143 rfl (by decide) (ls' := [(1, vI ((rst (pBeg (hi 85 k) s).1 : Nat) : Int)), (2, vI ((rmn s + 1 : Nat) : Int)), (4, vI (hi 85 k)), (0, vR 77), (3, vI ((k : Nat) : Int))]) rfl ?_
                    refine V.goto (pc := 144) 149 dX8_faultOfDays_144 (by decide) ?_
                    refine V.iinc (pc := 149) (r := ((k + 1 : Nat) : Int)) 4 dX8_faultOfDays_149 rfl (w32_of (by omega) (by omega) (by omega)) (by decide) (ls' := [(3, vI ((k + 1 : Nat) : Int)), (1, vI ((rst (pBeg (hi 85 k) s).1 : Nat) : Int)), (2, vI ((rmn s + 1 : Nat) : Int)), (4, vI (hi 85 k)), (0, vR 77)]) rfl ?_
                    refine V.goto (pc := 152) 6 dX8_faultOfDays_152 (by decide) ?_
                    refine V.locs [4, 1, 2, 0] (ls' := [(0, vR 77), (1, vI ((rst (pBeg (hi 85 k) s).1 : Nat) : Int)), (2, vI ((rmn s + 1 : Nat) : Int)), (3, vI ((k + 1 : Nat) : Int))]) rfl ?_
                    have hrn : (rmn s + 1) = rmn (pBeg (hi 85 k) s) := by have q := (rmn_f (pBeg (hi 85 k) s)).1 (by show (if spOf (hi 85 k) = 7 then 2 else 1) = 1 ∨ (if spOf (hi 85 k) = 7 then 2 else 1) = 2; split <;> omega); have q2 : (pBeg (hi 85 k) s).2.2.1 = s.2.2.1 := rfl; have q3 := hmn.2 (by omega); omega
                    rw [hrn]
                    exact ih6 (k + 1) (pBeg (hi 85 k) s) (by omega) (hE2) (fun _ => ⟨by omega, rfl⟩) (by omega)
                · skip
                  refine V.iload (pc := 113) 0 dX8_faultOfDays_113 rfl ?_
                  refine V.callS (pc := 115) (e1 := eX8_isLetter) 1 [vI (hi 85 k)] [] mfX8_isLetter slX8_isLetter mlX8_120 dX8_faultOfDays_115 rfl rfl (Nat.le_of_ble_eq_true rfl) ⟨by decide, by decide, by decide, by decide⟩ ?_
                  refine c_X8_isLetter KW hi hl (hi 85 k) _ (fun hbB => ?_) (fun hbB => ?_)
                  · skip
                    refine V.qI (pc := 115) rfl rfl ?_
                    refine V.if_ne (pc := 118) 128 dX8_faultOfDays_118 (by decide) (fun h118 => ?_) (fun hc => by exact absurd hc (by decide))
                    have hsy : (hi 85 k) = 88 ∨ (hi 85 k) = 109 ∨ (65 ≤ (hi 85 k) ∧ (hi 85 k) ≤ 70) := by omega
                    have hs2 := spOf_y hsy
                    have hE2 : dF (hi 85) (k + 1) = (-6, pBeg (hi 85 k) s) := dF_ok hE (by unfold pstep; rw [if_neg (by omega), if_neg (by omega), if_neg (by have q3 := hmn.2 (by omega); omega)])
                    refine V.iinc (pc := 128) (r := ((rmn s + 1 : Nat) : Int)) 3 dX8_faultOfDays_128 rfl (w32_of (by omega) (by omega) (by omega)) (by decide) (ls' := [(2, vI ((rmn s + 1 : Nat) : Int)), (4, vI (hi 85 k)), (0, vR 77), (1, vI ((rst s.1 : Nat) : Int)), (3, vI ((k : Nat) : Int))]) rfl ?_
                    refine V.iload (pc := 131) 1 dX8_faultOfDays_131 rfl ?_
                    refine V.bipush (pc := 133) (z := 109) dX8_faultOfDays_133 (by decide +kernel) ⟨by decide, by decide⟩ ?_
                    refine V.icmp_ne (pc := 135) 142 dX8_faultOfDays_135 (by decide) (fun h135 => ?_) (fun h135 => ?_)
                    · skip
                      refine V.iconst (pc := 142) (z := 1) dX8_faultOfDays_142 rfl ⟨by decide, by decide⟩ ?_
                      refine V.top (v' := vI ((rst (pBeg (hi 85 k) s).1 : Nat) : Int)) (by rw [show (pBeg (hi 85 k) s).1 = 1 by show (if spOf (hi 85 k) = 7 then 2 else 1) = 1; rw [if_neg (fun q => by have := hs2.2.mp q; omega)]]; rfl) ?_
                      refine V.istore_n (pc := 143) (i := 1) dX8_faultOfDays_143 rfl (by decide) (ls' := [(1, vI ((rst (pBeg (hi 85 k) s).1 : Nat) : Int)), (2, vI ((rmn s + 1 : Nat) : Int)), (4, vI (hi 85 k)), (0, vR 77), (3, vI ((k : Nat) : Int))]) rfl ?_
                      refine V.goto (pc := 144) 149 dX8_faultOfDays_144 (by decide) ?_
                      refine V.iinc (pc := 149) (r := ((k + 1 : Nat) : Int)) 4 dX8_faultOfDays_149 rfl (w32_of (by omega) (by omega) (by omega)) (by decide) (ls' := [(3, vI ((k + 1 : Nat) : Int)), (1, vI ((rst (pBeg (hi 85 k) s).1 : Nat) : Int)), (2, vI ((rmn s + 1 : Nat) : Int)), (4, vI (hi 85 k)), (0, vR 77)]) rfl ?_
                      refine V.goto (pc := 152) 6 dX8_faultOfDays_152 (by decide) ?_
                      refine V.locs [4, 1, 2, 0] (ls' := [(0, vR 77), (1, vI ((rst (pBeg (hi 85 k) s).1 : Nat) : Int)), (2, vI ((rmn s + 1 : Nat) : Int)), (3, vI ((k + 1 : Nat) : Int))]) rfl ?_
                      have hrn : (rmn s + 1) = rmn (pBeg (hi 85 k) s) := by have q := (rmn_f (pBeg (hi 85 k) s)).1 (by show (if spOf (hi 85 k) = 7 then 2 else 1) = 1 ∨ (if spOf (hi 85 k) = 7 then 2 else 1) = 2; split <;> omega); have q2 : (pBeg (hi 85 k) s).2.2.1 = s.2.2.1 := rfl; have q3 := hmn.2 (by omega); omega
                      rw [hrn]
                      exact ih6 (k + 1) (pBeg (hi 85 k) s) (by omega) (hE2) (fun _ => ⟨by omega, rfl⟩) (by omega)
                    · skip
                      refine V.iconst (pc := 138) (z := 3) dX8_faultOfDays_138 rfl ⟨by decide, by decide⟩ ?_
                      refine V.top (v' := vI ((rst (pBeg (hi 85 k) s).1 : Nat) : Int)) (by rw [show (pBeg (hi 85 k) s).1 = 2 by show (if spOf (hi 85 k) = 7 then 2 else 1) = 2; rw [if_pos (hs2.2.mpr (by omega))]]; rfl) ?_
                      refine V.goto (pc := 139) 143 dX8_faultOfDays_139 (by decide) ?_
                      refine V.istore_n (pc := 143) (i := 1) dX8_faultOfDays_143 rfl (by decide) (ls' := [(1, vI ((rst (pBeg (hi 85 k) s).1 : Nat) : Int)), (2, vI ((rmn s + 1 : Nat) : Int)), (4, vI (hi 85 k)), (0, vR 77), (3, vI ((k : Nat) : Int))]) rfl ?_
                      refine V.goto (pc := 144) 149 dX8_faultOfDays_144 (by decide) ?_
                      refine V.iinc (pc := 149) (r := ((k + 1 : Nat) : Int)) 4 dX8_faultOfDays_149 rfl (w32_of (by omega) (by omega) (by omega)) (by decide) (ls' := [(3, vI ((k + 1 : Nat) : Int)), (1, vI ((rst (pBeg (hi 85 k) s).1 : Nat) : Int)), (2, vI ((rmn s + 1 : Nat) : Int)), (4, vI (hi 85 k)), (0, vR 77)]) rfl ?_
                      refine V.goto (pc := 152) 6 dX8_faultOfDays_152 (by decide) ?_
                      refine V.locs [4, 1, 2, 0] (ls' := [(0, vR 77), (1, vI ((rst (pBeg (hi 85 k) s).1 : Nat) : Int)), (2, vI ((rmn s + 1 : Nat) : Int)), (3, vI ((k + 1 : Nat) : Int))]) rfl ?_
                      have hrn : (rmn s + 1) = rmn (pBeg (hi 85 k) s) := by have q := (rmn_f (pBeg (hi 85 k) s)).1 (by show (if spOf (hi 85 k) = 7 then 2 else 1) = 1 ∨ (if spOf (hi 85 k) = 7 then 2 else 1) = 2; split <;> omega); have q2 : (pBeg (hi 85 k) s).2.2.1 = s.2.2.1 := rfl; have q3 := hmn.2 (by omega); omega
                      rw [hrn]
                      exact ih6 (k + 1) (pBeg (hi 85 k) s) (by omega) (hE2) (fun _ => ⟨by omega, rfl⟩) (by omega)
                  · skip
                    refine V.qI (pc := 115) rfl rfl ?_
                    refine V.if_ne (pc := 118) 128 dX8_faultOfDays_118 (by decide) (fun hc => by exact absurd hc (by decide)) (fun h118 => ?_)
                    refine V.iload (pc := 121) 0 dX8_faultOfDays_121 rfl ?_
                    refine V.bipush (pc := 123) (z := 109) dX8_faultOfDays_123 (by decide +kernel) ⟨by decide, by decide⟩ ?_
                    refine V.icmp_ne (pc := 125) 147 dX8_faultOfDays_125 (by decide) (fun h125 => ?_) (fun h125 => ?_)
                    · skip
                      refine V.iload_n (pc := 147) 4 dX8_faultOfDays_147 rfl ?_
                      refine V.iret (pc := 148) (z := ((k : Nat) : Int)) dX8_faultOfDays_148 rfl ?_
                      have e := dayF_bad hE (by unfold pstep; rw [if_neg (by omega), if_neg (by omega), if_pos (by first | omega | exact Or.inl (spOf_n (by omega)) | (have q3 := hmn.2 (by omega); omega))]) (show k < m by omega)
                      rw [e] at hq
                      exact hq
                    · skip
                      have hsy : (hi 85 k) = 88 ∨ (hi 85 k) = 109 ∨ (65 ≤ (hi 85 k) ∧ (hi 85 k) ≤ 70) := by omega
                      have hs2 := spOf_y hsy
                      have hE2 : dF (hi 85) (k + 1) = (-6, pBeg (hi 85 k) s) := dF_ok hE (by unfold pstep; rw [if_neg (by omega), if_neg (by omega), if_neg (by have q3 := hmn.2 (by omega); omega)])
                      refine V.iinc (pc := 128) (r := ((rmn s + 1 : Nat) : Int)) 3 dX8_faultOfDays_128 rfl (w32_of (by omega) (by omega) (by omega)) (by decide) (ls' := [(2, vI ((rmn s + 1 : Nat) : Int)), (4, vI (hi 85 k)), (0, vR 77), (1, vI ((rst s.1 : Nat) : Int)), (3, vI ((k : Nat) : Int))]) rfl ?_
                      refine V.iload (pc := 131) 1 dX8_faultOfDays_131 rfl ?_
                      refine V.bipush (pc := 133) (z := 109) dX8_faultOfDays_133 (by decide +kernel) ⟨by decide, by decide⟩ ?_
                      refine V.icmp_ne (pc := 135) 142 dX8_faultOfDays_135 (by decide) (fun h135 => ?_) (fun h135 => ?_)
                      · skip
                        refine V.iconst (pc := 142) (z := 1) dX8_faultOfDays_142 rfl ⟨by decide, by decide⟩ ?_
                        refine V.top (v' := vI ((rst (pBeg (hi 85 k) s).1 : Nat) : Int)) (by rw [show (pBeg (hi 85 k) s).1 = 1 by show (if spOf (hi 85 k) = 7 then 2 else 1) = 1; rw [if_neg (fun q => by have := hs2.2.mp q; omega)]]; rfl) ?_
                        refine V.istore_n (pc := 143) (i := 1) dX8_faultOfDays_143 rfl (by decide) (ls' := [(1, vI ((rst (pBeg (hi 85 k) s).1 : Nat) : Int)), (2, vI ((rmn s + 1 : Nat) : Int)), (4, vI (hi 85 k)), (0, vR 77), (3, vI ((k : Nat) : Int))]) rfl ?_
                        refine V.goto (pc := 144) 149 dX8_faultOfDays_144 (by decide) ?_
                        refine V.iinc (pc := 149) (r := ((k + 1 : Nat) : Int)) 4 dX8_faultOfDays_149 rfl (w32_of (by omega) (by omega) (by omega)) (by decide) (ls' := [(3, vI ((k + 1 : Nat) : Int)), (1, vI ((rst (pBeg (hi 85 k) s).1 : Nat) : Int)), (2, vI ((rmn s + 1 : Nat) : Int)), (4, vI (hi 85 k)), (0, vR 77)]) rfl ?_
                        refine V.goto (pc := 152) 6 dX8_faultOfDays_152 (by decide) ?_
                        refine V.locs [4, 1, 2, 0] (ls' := [(0, vR 77), (1, vI ((rst (pBeg (hi 85 k) s).1 : Nat) : Int)), (2, vI ((rmn s + 1 : Nat) : Int)), (3, vI ((k + 1 : Nat) : Int))]) rfl ?_
                        have hrn : (rmn s + 1) = rmn (pBeg (hi 85 k) s) := by have q := (rmn_f (pBeg (hi 85 k) s)).1 (by show (if spOf (hi 85 k) = 7 then 2 else 1) = 1 ∨ (if spOf (hi 85 k) = 7 then 2 else 1) = 2; split <;> omega); have q2 : (pBeg (hi 85 k) s).2.2.1 = s.2.2.1 := rfl; have q3 := hmn.2 (by omega); omega
                        rw [hrn]
                        exact ih6 (k + 1) (pBeg (hi 85 k) s) (by omega) (hE2) (fun _ => ⟨by omega, rfl⟩) (by omega)
                      · skip
                        refine V.iconst (pc := 138) (z := 3) dX8_faultOfDays_138 rfl ⟨by decide, by decide⟩ ?_
                        refine V.top (v' := vI ((rst (pBeg (hi 85 k) s).1 : Nat) : Int)) (by rw [show (pBeg (hi 85 k) s).1 = 2 by show (if spOf (hi 85 k) = 7 then 2 else 1) = 2; rw [if_pos (hs2.2.mpr (by omega))]]; rfl) ?_
                        refine V.goto (pc := 139) 143 dX8_faultOfDays_139 (by decide) ?_
                        refine V.istore_n (pc := 143) (i := 1) dX8_faultOfDays_143 rfl (by decide) (ls' := [(1, vI ((rst (pBeg (hi 85 k) s).1 : Nat) : Int)), (2, vI ((rmn s + 1 : Nat) : Int)), (4, vI (hi 85 k)), (0, vR 77), (3, vI ((k : Nat) : Int))]) rfl ?_
                        refine V.goto (pc := 144) 149 dX8_faultOfDays_144 (by decide) ?_
                        refine V.iinc (pc := 149) (r := ((k + 1 : Nat) : Int)) 4 dX8_faultOfDays_149 rfl (w32_of (by omega) (by omega) (by omega)) (by decide) (ls' := [(3, vI ((k + 1 : Nat) : Int)), (1, vI ((rst (pBeg (hi 85 k) s).1 : Nat) : Int)), (2, vI ((rmn s + 1 : Nat) : Int)), (4, vI (hi 85 k)), (0, vR 77)]) rfl ?_
                        refine V.goto (pc := 152) 6 dX8_faultOfDays_152 (by decide) ?_
                        refine V.locs [4, 1, 2, 0] (ls' := [(0, vR 77), (1, vI ((rst (pBeg (hi 85 k) s).1 : Nat) : Int)), (2, vI ((rmn s + 1 : Nat) : Int)), (3, vI ((k + 1 : Nat) : Int))]) rfl ?_
                        have hrn : (rmn s + 1) = rmn (pBeg (hi 85 k) s) := by have q := (rmn_f (pBeg (hi 85 k) s)).1 (by show (if spOf (hi 85 k) = 7 then 2 else 1) = 1 ∨ (if spOf (hi 85 k) = 7 then 2 else 1) = 2; split <;> omega); have q2 : (pBeg (hi 85 k) s).2.2.1 = s.2.2.1 := rfl; have q3 := hmn.2 (by omega); omega
                        rw [hrn]
                        exact ih6 (k + 1) (pBeg (hi 85 k) s) (by omega) (hE2) (fun _ => ⟨by omega, rfl⟩) (by omega)
            · skip
              refine V.iload (pc := 80) 0 dX8_faultOfDays_80 rfl ?_
              refine V.i2l (pc := 82) dX8_faultOfDays_82 ?_
              refine V.ldc2 (pc := 83) (z := 49) clX8_123 dX8_faultOfDays_83 ⟨by decide, by decide⟩ ?_
              refine V.ldc2 (pc := 86) (z := 57) clX8_125 dX8_faultOfDays_86 ⟨by decide, by decide⟩ ?_
              refine V.callS (pc := 89) (e1 := eX8_in) 3 [vL (hi 85 k), vL 49, vL 57] [] mfX8_in slX8_in mlX8_72 dX8_faultOfDays_89 rfl rfl (Nat.le_of_ble_eq_true rfl) ⟨by decide, by decide, by decide, by decide⟩ ?_
              refine c_X8_in KW hi hl (hi 85 k) 49 57 _ (fun hinD => ?_) (fun hinD => ?_)
              · skip
                refine V.qI (pc := 89) rfl rfl ?_
                refine V.if_eq (pc := 92) 100 dX8_faultOfDays_92 (by decide) (fun hc => by exact absurd hc (by decide)) (fun h92 => ?_)
                have hE2 : dF (hi 85) (k + 1) = (-6, (pDig (hi 85 k) s)) := dF_ok hE (by unfold pstep; rw [if_neg (by omega), if_pos (by omega)])
                refine V.iconst (pc := 95) (z := 0) dX8_faultOfDays_95 rfl ⟨by decide, by decide⟩ ?_
                refine V.top (v' := vI ((rst (pDig (hi 85 k) s).1 : Nat) : Int)) (rfl) ?_
                refine V.istore_n (pc := 96) (i := 1) dX8_faultOfDays_96 rfl (by decide) (ls' := [(1, vI ((rst (pDig (hi 85 k) s).1 : Nat) : Int)), (4, vI (hi 85 k)), (0, vR 77), (2, vI ((rmn s : Nat) : Int)), (3, vI ((k : Nat) : Int))]) rfl ?_
                refine V.goto (pc := 97) 149 dX8_faultOfDays_97 (by decide) ?_
                refine V.iinc (pc := 149) (r := ((k + 1 : Nat) : Int)) 4 dX8_faultOfDays_149 rfl (w32_of (by omega) (by omega) (by omega)) (by decide) (ls' := [(3, vI ((k + 1 : Nat) : Int)), (1, vI ((rst (pDig (hi 85 k) s).1 : Nat) : Int)), (4, vI (hi 85 k)), (0, vR 77), (2, vI ((rmn s : Nat) : Int))]) rfl ?_
                refine V.goto (pc := 152) 6 dX8_faultOfDays_152 (by decide) ?_
                refine V.locs [3, 1, 4, 0] (ls' := [(0, vR 77), (1, vI ((rst (pDig (hi 85 k) s).1 : Nat) : Int)), (2, vI ((rmn s : Nat) : Int)), (3, vI ((k + 1 : Nat) : Int))]) rfl ?_
                have hrn : rmn s = rmn (pDig (hi 85 k) s) := by have q := (rmn_f (pDig (hi 85 k) s)).2 (by show ¬ (0 = 1 ∨ 0 = 2); omega); have q2 : (pDig (hi 85 k) s).2.2.1 = s.2.2.1 := rfl; have q3 := hmn.2 (by omega); omega
                rw [hrn]
                exact ih6 (k + 1) (pDig (hi 85 k) s) (by omega) (hE2) (fun h => by cases h) (by omega)
              · skip
                refine V.qI (pc := 89) rfl rfl ?_
                refine V.if_eq (pc := 92) 100 dX8_faultOfDays_92 (by decide) (fun h92 => ?_) (fun hc => by exact absurd hc (by decide))
                refine V.iload_n (pc := 100) 3 dX8_faultOfDays_100 rfl ?_
                refine V.bipush (pc := 101) (z := 16) dX8_faultOfDays_101 (by decide +kernel) ⟨by decide, by decide⟩ ?_
                refine V.icmp_ge (pc := 103) 147 dX8_faultOfDays_103 (by decide) (fun h103 => ?_) (fun h103 => ?_)
                · skip
                  refine V.iload_n (pc := 147) 4 dX8_faultOfDays_147 rfl ?_
                  refine V.iret (pc := 148) (z := ((k : Nat) : Int)) dX8_faultOfDays_148 rfl ?_
                  have e := dayF_bad hE (by unfold pstep; rw [if_neg (by omega), if_neg (by omega), if_pos (by first | omega | exact Or.inl (spOf_n (by omega)) | (have q3 := hmn.2 (by omega); omega))]) (show k < m by omega)
                  rw [e] at hq
                  exact hq
                · skip
                  refine V.iload (pc := 106) 0 dX8_faultOfDays_106 rfl ?_
                  refine V.bipush (pc := 108) (z := 88) dX8_faultOfDays_108 (by decide +kernel) ⟨by decide, by decide⟩ ?_
                  refine V.icmp_eq (pc := 110) 128 dX8_faultOfDays_110 (by decide) (fun h110 => ?_) (fun h110 => ?_)
                  · skip
                    have hsy : (hi 85 k) = 88 ∨ (hi 85 k) = 109 ∨ (65 ≤ (hi 85 k) ∧ (hi 85 k) ≤ 70) := by omega
                    have hs2 := spOf_y hsy
                    have hE2 : dF (hi 85) (k + 1) = (-6, pBeg (hi 85 k) s) := dF_ok hE (by unfold pstep; rw [if_neg (by omega), if_neg (by omega), if_neg (by have q3 := hmn.2 (by omega); omega)])
                    refine V.iinc (pc := 128) (r := ((rmn s + 1 : Nat) : Int)) 3 dX8_faultOfDays_128 rfl (w32_of (by omega) (by omega) (by omega)) (by decide) (ls' := [(2, vI ((rmn s + 1 : Nat) : Int)), (4, vI (hi 85 k)), (0, vR 77), (1, vI ((rst s.1 : Nat) : Int)), (3, vI ((k : Nat) : Int))]) rfl ?_
                    refine V.iload (pc := 131) 1 dX8_faultOfDays_131 rfl ?_
                    refine V.bipush (pc := 133) (z := 109) dX8_faultOfDays_133 (by decide +kernel) ⟨by decide, by decide⟩ ?_
                    refine V.icmp_ne (pc := 135) 142 dX8_faultOfDays_135 (by decide) (fun h135 => ?_) (fun h135 => ?_)
                    · skip
                      refine V.iconst (pc := 142) (z := 1) dX8_faultOfDays_142 rfl ⟨by decide, by decide⟩ ?_
                      refine V.top (v' := vI ((rst (pBeg (hi 85 k) s).1 : Nat) : Int)) (by rw [show (pBeg (hi 85 k) s).1 = 1 by show (if spOf (hi 85 k) = 7 then 2 else 1) = 1; rw [if_neg (fun q => by have := hs2.2.mp q; omega)]]; rfl) ?_
                      refine V.istore_n (pc := 143) (i := 1) dX8_faultOfDays_143 rfl (by decide) (ls' := [(1, vI ((rst (pBeg (hi 85 k) s).1 : Nat) : Int)), (2, vI ((rmn s + 1 : Nat) : Int)), (4, vI (hi 85 k)), (0, vR 77), (3, vI ((k : Nat) : Int))]) rfl ?_
                      refine V.goto (pc := 144) 149 dX8_faultOfDays_144 (by decide) ?_
                      refine V.iinc (pc := 149) (r := ((k + 1 : Nat) : Int)) 4 dX8_faultOfDays_149 rfl (w32_of (by omega) (by omega) (by omega)) (by decide) (ls' := [(3, vI ((k + 1 : Nat) : Int)), (1, vI ((rst (pBeg (hi 85 k) s).1 : Nat) : Int)), (2, vI ((rmn s + 1 : Nat) : Int)), (4, vI (hi 85 k)), (0, vR 77)]) rfl ?_
                      refine V.goto (pc := 152) 6 dX8_faultOfDays_152 (by decide) ?_
                      refine V.locs [4, 1, 2, 0] (ls' := [(0, vR 77), (1, vI ((rst (pBeg (hi 85 k) s).1 : Nat) : Int)), (2, vI ((rmn s + 1 : Nat) : Int)), (3, vI ((k + 1 : Nat) : Int))]) rfl ?_
                      have hrn : (rmn s + 1) = rmn (pBeg (hi 85 k) s) := by have q := (rmn_f (pBeg (hi 85 k) s)).1 (by show (if spOf (hi 85 k) = 7 then 2 else 1) = 1 ∨ (if spOf (hi 85 k) = 7 then 2 else 1) = 2; split <;> omega); have q2 : (pBeg (hi 85 k) s).2.2.1 = s.2.2.1 := rfl; have q3 := hmn.2 (by omega); omega
                      rw [hrn]
                      exact ih6 (k + 1) (pBeg (hi 85 k) s) (by omega) (hE2) (fun _ => ⟨by omega, rfl⟩) (by omega)
                    · skip
                      refine V.iconst (pc := 138) (z := 3) dX8_faultOfDays_138 rfl ⟨by decide, by decide⟩ ?_
                      refine V.top (v' := vI ((rst (pBeg (hi 85 k) s).1 : Nat) : Int)) (by rw [show (pBeg (hi 85 k) s).1 = 2 by show (if spOf (hi 85 k) = 7 then 2 else 1) = 2; rw [if_pos (hs2.2.mpr (by omega))]]; rfl) ?_
                      refine V.goto (pc := 139) 143 dX8_faultOfDays_139 (by decide) ?_
                      refine V.istore_n (pc := 143) (i := 1) dX8_faultOfDays_143 rfl (by decide) (ls' := [(1, vI ((rst (pBeg (hi 85 k) s).1 : Nat) : Int)), (2, vI ((rmn s + 1 : Nat) : Int)), (4, vI (hi 85 k)), (0, vR 77), (3, vI ((k : Nat) : Int))]) rfl ?_
                      refine V.goto (pc := 144) 149 dX8_faultOfDays_144 (by decide) ?_
                      refine V.iinc (pc := 149) (r := ((k + 1 : Nat) : Int)) 4 dX8_faultOfDays_149 rfl (w32_of (by omega) (by omega) (by omega)) (by decide) (ls' := [(3, vI ((k + 1 : Nat) : Int)), (1, vI ((rst (pBeg (hi 85 k) s).1 : Nat) : Int)), (2, vI ((rmn s + 1 : Nat) : Int)), (4, vI (hi 85 k)), (0, vR 77)]) rfl ?_
                      refine V.goto (pc := 152) 6 dX8_faultOfDays_152 (by decide) ?_
                      refine V.locs [4, 1, 2, 0] (ls' := [(0, vR 77), (1, vI ((rst (pBeg (hi 85 k) s).1 : Nat) : Int)), (2, vI ((rmn s + 1 : Nat) : Int)), (3, vI ((k + 1 : Nat) : Int))]) rfl ?_
                      have hrn : (rmn s + 1) = rmn (pBeg (hi 85 k) s) := by have q := (rmn_f (pBeg (hi 85 k) s)).1 (by show (if spOf (hi 85 k) = 7 then 2 else 1) = 1 ∨ (if spOf (hi 85 k) = 7 then 2 else 1) = 2; split <;> omega); have q2 : (pBeg (hi 85 k) s).2.2.1 = s.2.2.1 := rfl; have q3 := hmn.2 (by omega); omega
                      rw [hrn]
                      exact ih6 (k + 1) (pBeg (hi 85 k) s) (by omega) (hE2) (fun _ => ⟨by omega, rfl⟩) (by omega)
                  · skip
                    refine V.iload (pc := 113) 0 dX8_faultOfDays_113 rfl ?_
                    refine V.callS (pc := 115) (e1 := eX8_isLetter) 1 [vI (hi 85 k)] [] mfX8_isLetter slX8_isLetter mlX8_120 dX8_faultOfDays_115 rfl rfl (Nat.le_of_ble_eq_true rfl) ⟨by decide, by decide, by decide, by decide⟩ ?_
                    refine c_X8_isLetter KW hi hl (hi 85 k) _ (fun hbB => ?_) (fun hbB => ?_)
                    · skip
                      refine V.qI (pc := 115) rfl rfl ?_
                      refine V.if_ne (pc := 118) 128 dX8_faultOfDays_118 (by decide) (fun h118 => ?_) (fun hc => by exact absurd hc (by decide))
                      have hsy : (hi 85 k) = 88 ∨ (hi 85 k) = 109 ∨ (65 ≤ (hi 85 k) ∧ (hi 85 k) ≤ 70) := by omega
                      have hs2 := spOf_y hsy
                      have hE2 : dF (hi 85) (k + 1) = (-6, pBeg (hi 85 k) s) := dF_ok hE (by unfold pstep; rw [if_neg (by omega), if_neg (by omega), if_neg (by have q3 := hmn.2 (by omega); omega)])
                      refine V.iinc (pc := 128) (r := ((rmn s + 1 : Nat) : Int)) 3 dX8_faultOfDays_128 rfl (w32_of (by omega) (by omega) (by omega)) (by decide) (ls' := [(2, vI ((rmn s + 1 : Nat) : Int)), (4, vI (hi 85 k)), (0, vR 77), (1, vI ((rst s.1 : Nat) : Int)), (3, vI ((k : Nat) : Int))]) rfl ?_
                      refine V.iload (pc := 131) 1 dX8_faultOfDays_131 rfl ?_
                      refine V.bipush (pc := 133) (z := 109) dX8_faultOfDays_133 (by decide +kernel) ⟨by decide, by decide⟩ ?_
                      refine V.icmp_ne (pc := 135) 142 dX8_faultOfDays_135 (by decide) (fun h135 => ?_) (fun h135 => ?_)
                      · skip
                        refine V.iconst (pc := 142) (z := 1) dX8_faultOfDays_142 rfl ⟨by decide, by decide⟩ ?_
                        refine V.top (v' := vI ((rst (pBeg (hi 85 k) s).1 : Nat) : Int)) (by rw [show (pBeg (hi 85 k) s).1 = 1 by show (if spOf (hi 85 k) = 7 then 2 else 1) = 1; rw [if_neg (fun q => by have := hs2.2.mp q; omega)]]; rfl) ?_
                        refine V.istore_n (pc := 143) (i := 1) dX8_faultOfDays_143 rfl (by decide) (ls' := [(1, vI ((rst (pBeg (hi 85 k) s).1 : Nat) : Int)), (2, vI ((rmn s + 1 : Nat) : Int)), (4, vI (hi 85 k)), (0, vR 77), (3, vI ((k : Nat) : Int))]) rfl ?_
                        refine V.goto (pc := 144) 149 dX8_faultOfDays_144 (by decide) ?_
                        refine V.iinc (pc := 149) (r := ((k + 1 : Nat) : Int)) 4 dX8_faultOfDays_149 rfl (w32_of (by omega) (by omega) (by omega)) (by decide) (ls' := [(3, vI ((k + 1 : Nat) : Int)), (1, vI ((rst (pBeg (hi 85 k) s).1 : Nat) : Int)), (2, vI ((rmn s + 1 : Nat) : Int)), (4, vI (hi 85 k)), (0, vR 77)]) rfl ?_
                        refine V.goto (pc := 152) 6 dX8_faultOfDays_152 (by decide) ?_
                        refine V.locs [4, 1, 2, 0] (ls' := [(0, vR 77), (1, vI ((rst (pBeg (hi 85 k) s).1 : Nat) : Int)), (2, vI ((rmn s + 1 : Nat) : Int)), (3, vI ((k + 1 : Nat) : Int))]) rfl ?_
                        have hrn : (rmn s + 1) = rmn (pBeg (hi 85 k) s) := by have q := (rmn_f (pBeg (hi 85 k) s)).1 (by show (if spOf (hi 85 k) = 7 then 2 else 1) = 1 ∨ (if spOf (hi 85 k) = 7 then 2 else 1) = 2; split <;> omega); have q2 : (pBeg (hi 85 k) s).2.2.1 = s.2.2.1 := rfl; have q3 := hmn.2 (by omega); omega
                        rw [hrn]
                        exact ih6 (k + 1) (pBeg (hi 85 k) s) (by omega) (hE2) (fun _ => ⟨by omega, rfl⟩) (by omega)
                      · skip
                        refine V.iconst (pc := 138) (z := 3) dX8_faultOfDays_138 rfl ⟨by decide, by decide⟩ ?_
                        refine V.top (v' := vI ((rst (pBeg (hi 85 k) s).1 : Nat) : Int)) (by rw [show (pBeg (hi 85 k) s).1 = 2 by show (if spOf (hi 85 k) = 7 then 2 else 1) = 2; rw [if_pos (hs2.2.mpr (by omega))]]; rfl) ?_
                        refine V.goto (pc := 139) 143 dX8_faultOfDays_139 (by decide) ?_
                        refine V.istore_n (pc := 143) (i := 1) dX8_faultOfDays_143 rfl (by decide) (ls' := [(1, vI ((rst (pBeg (hi 85 k) s).1 : Nat) : Int)), (2, vI ((rmn s + 1 : Nat) : Int)), (4, vI (hi 85 k)), (0, vR 77), (3, vI ((k : Nat) : Int))]) rfl ?_
                        refine V.goto (pc := 144) 149 dX8_faultOfDays_144 (by decide) ?_
                        refine V.iinc (pc := 149) (r := ((k + 1 : Nat) : Int)) 4 dX8_faultOfDays_149 rfl (w32_of (by omega) (by omega) (by omega)) (by decide) (ls' := [(3, vI ((k + 1 : Nat) : Int)), (1, vI ((rst (pBeg (hi 85 k) s).1 : Nat) : Int)), (2, vI ((rmn s + 1 : Nat) : Int)), (4, vI (hi 85 k)), (0, vR 77)]) rfl ?_
                        refine V.goto (pc := 152) 6 dX8_faultOfDays_152 (by decide) ?_
                        refine V.locs [4, 1, 2, 0] (ls' := [(0, vR 77), (1, vI ((rst (pBeg (hi 85 k) s).1 : Nat) : Int)), (2, vI ((rmn s + 1 : Nat) : Int)), (3, vI ((k + 1 : Nat) : Int))]) rfl ?_
                        have hrn : (rmn s + 1) = rmn (pBeg (hi 85 k) s) := by have q := (rmn_f (pBeg (hi 85 k) s)).1 (by show (if spOf (hi 85 k) = 7 then 2 else 1) = 1 ∨ (if spOf (hi 85 k) = 7 then 2 else 1) = 2; split <;> omega); have q2 : (pBeg (hi 85 k) s).2.2.1 = s.2.2.1 := rfl; have q3 := hmn.2 (by omega); omega
                        rw [hrn]
                        exact ih6 (k + 1) (pBeg (hi 85 k) s) (by omega) (hE2) (fun _ => ⟨by omega, rfl⟩) (by omega)
                    · skip
                      refine V.qI (pc := 115) rfl rfl ?_
                      refine V.if_ne (pc := 118) 128 dX8_faultOfDays_118 (by decide) (fun hc => by exact absurd hc (by decide)) (fun h118 => ?_)
                      refine V.iload (pc := 121) 0 dX8_faultOfDays_121 rfl ?_
                      refine V.bipush (pc := 123) (z := 109) dX8_faultOfDays_123 (by decide +kernel) ⟨by decide, by decide⟩ ?_
                      refine V.icmp_ne (pc := 125) 147 dX8_faultOfDays_125 (by decide) (fun h125 => ?_) (fun h125 => ?_)
                      · skip
                        refine V.iload_n (pc := 147) 4 dX8_faultOfDays_147 rfl ?_
                        refine V.iret (pc := 148) (z := ((k : Nat) : Int)) dX8_faultOfDays_148 rfl ?_
                        have e := dayF_bad hE (by unfold pstep; rw [if_neg (by omega), if_neg (by omega), if_pos (by first | omega | exact Or.inl (spOf_n (by omega)) | (have q3 := hmn.2 (by omega); omega))]) (show k < m by omega)
                        rw [e] at hq
                        exact hq
                      · skip
                        have hsy : (hi 85 k) = 88 ∨ (hi 85 k) = 109 ∨ (65 ≤ (hi 85 k) ∧ (hi 85 k) ≤ 70) := by omega
                        have hs2 := spOf_y hsy
                        have hE2 : dF (hi 85) (k + 1) = (-6, pBeg (hi 85 k) s) := dF_ok hE (by unfold pstep; rw [if_neg (by omega), if_neg (by omega), if_neg (by have q3 := hmn.2 (by omega); omega)])
                        refine V.iinc (pc := 128) (r := ((rmn s + 1 : Nat) : Int)) 3 dX8_faultOfDays_128 rfl (w32_of (by omega) (by omega) (by omega)) (by decide) (ls' := [(2, vI ((rmn s + 1 : Nat) : Int)), (4, vI (hi 85 k)), (0, vR 77), (1, vI ((rst s.1 : Nat) : Int)), (3, vI ((k : Nat) : Int))]) rfl ?_
                        refine V.iload (pc := 131) 1 dX8_faultOfDays_131 rfl ?_
                        refine V.bipush (pc := 133) (z := 109) dX8_faultOfDays_133 (by decide +kernel) ⟨by decide, by decide⟩ ?_
                        refine V.icmp_ne (pc := 135) 142 dX8_faultOfDays_135 (by decide) (fun h135 => ?_) (fun h135 => ?_)
                        · skip
                          refine V.iconst (pc := 142) (z := 1) dX8_faultOfDays_142 rfl ⟨by decide, by decide⟩ ?_
                          refine V.top (v' := vI ((rst (pBeg (hi 85 k) s).1 : Nat) : Int)) (by rw [show (pBeg (hi 85 k) s).1 = 1 by show (if spOf (hi 85 k) = 7 then 2 else 1) = 1; rw [if_neg (fun q => by have := hs2.2.mp q; omega)]]; rfl) ?_
                          refine V.istore_n (pc := 143) (i := 1) dX8_faultOfDays_143 rfl (by decide) (ls' := [(1, vI ((rst (pBeg (hi 85 k) s).1 : Nat) : Int)), (2, vI ((rmn s + 1 : Nat) : Int)), (4, vI (hi 85 k)), (0, vR 77), (3, vI ((k : Nat) : Int))]) rfl ?_
                          refine V.goto (pc := 144) 149 dX8_faultOfDays_144 (by decide) ?_
                          refine V.iinc (pc := 149) (r := ((k + 1 : Nat) : Int)) 4 dX8_faultOfDays_149 rfl (w32_of (by omega) (by omega) (by omega)) (by decide) (ls' := [(3, vI ((k + 1 : Nat) : Int)), (1, vI ((rst (pBeg (hi 85 k) s).1 : Nat) : Int)), (2, vI ((rmn s + 1 : Nat) : Int)), (4, vI (hi 85 k)), (0, vR 77)]) rfl ?_
                          refine V.goto (pc := 152) 6 dX8_faultOfDays_152 (by decide) ?_
                          refine V.locs [4, 1, 2, 0] (ls' := [(0, vR 77), (1, vI ((rst (pBeg (hi 85 k) s).1 : Nat) : Int)), (2, vI ((rmn s + 1 : Nat) : Int)), (3, vI ((k + 1 : Nat) : Int))]) rfl ?_
                          have hrn : (rmn s + 1) = rmn (pBeg (hi 85 k) s) := by have q := (rmn_f (pBeg (hi 85 k) s)).1 (by show (if spOf (hi 85 k) = 7 then 2 else 1) = 1 ∨ (if spOf (hi 85 k) = 7 then 2 else 1) = 2; split <;> omega); have q2 : (pBeg (hi 85 k) s).2.2.1 = s.2.2.1 := rfl; have q3 := hmn.2 (by omega); omega
                          rw [hrn]
                          exact ih6 (k + 1) (pBeg (hi 85 k) s) (by omega) (hE2) (fun _ => ⟨by omega, rfl⟩) (by omega)
                        · skip
                          refine V.iconst (pc := 138) (z := 3) dX8_faultOfDays_138 rfl ⟨by decide, by decide⟩ ?_
                          refine V.top (v' := vI ((rst (pBeg (hi 85 k) s).1 : Nat) : Int)) (by rw [show (pBeg (hi 85 k) s).1 = 2 by show (if spOf (hi 85 k) = 7 then 2 else 1) = 2; rw [if_pos (hs2.2.mpr (by omega))]]; rfl) ?_
                          refine V.goto (pc := 139) 143 dX8_faultOfDays_139 (by decide) ?_
                          refine V.istore_n (pc := 143) (i := 1) dX8_faultOfDays_143 rfl (by decide) (ls' := [(1, vI ((rst (pBeg (hi 85 k) s).1 : Nat) : Int)), (2, vI ((rmn s + 1 : Nat) : Int)), (4, vI (hi 85 k)), (0, vR 77), (3, vI ((k : Nat) : Int))]) rfl ?_
                          refine V.goto (pc := 144) 149 dX8_faultOfDays_144 (by decide) ?_
                          refine V.iinc (pc := 149) (r := ((k + 1 : Nat) : Int)) 4 dX8_faultOfDays_149 rfl (w32_of (by omega) (by omega) (by omega)) (by decide) (ls' := [(3, vI ((k + 1 : Nat) : Int)), (1, vI ((rst (pBeg (hi 85 k) s).1 : Nat) : Int)), (2, vI ((rmn s + 1 : Nat) : Int)), (4, vI (hi 85 k)), (0, vR 77)]) rfl ?_
                          refine V.goto (pc := 152) 6 dX8_faultOfDays_152 (by decide) ?_
                          refine V.locs [4, 1, 2, 0] (ls' := [(0, vR 77), (1, vI ((rst (pBeg (hi 85 k) s).1 : Nat) : Int)), (2, vI ((rmn s + 1 : Nat) : Int)), (3, vI ((k + 1 : Nat) : Int))]) rfl ?_
                          have hrn : (rmn s + 1) = rmn (pBeg (hi 85 k) s) := by have q := (rmn_f (pBeg (hi 85 k) s)).1 (by show (if spOf (hi 85 k) = 7 then 2 else 1) = 1 ∨ (if spOf (hi 85 k) = 7 then 2 else 1) = 2; split <;> omega); have q2 : (pBeg (hi 85 k) s).2.2.1 = s.2.2.1 := rfl; have q3 := hmn.2 (by omega); omega
                          rw [hrn]
                          exact ih6 (k + 1) (pBeg (hi 85 k) s) (by omega) (hE2) (fun _ => ⟨by omega, rfl⟩) (by omega)
          · skip
            refine V.iload (pc := 60) 0 dX8_faultOfDays_60 rfl ?_
            refine V.callS (pc := 62) (e1 := eX8_isLetter) 1 [vI (hi 85 k)] [] mfX8_isLetter slX8_isLetter mlX8_120 dX8_faultOfDays_62 rfl rfl (Nat.le_of_ble_eq_true rfl) ⟨by decide, by decide, by decide, by decide⟩ ?_
            refine c_X8_isLetter KW hi hl (hi 85 k) _ (fun hb => ?_) (fun hb => ?_)
            · skip
              refine V.qI (pc := 62) rfl rfl ?_
              refine V.if_ne (pc := 65) 70 dX8_faultOfDays_65 (by decide) (fun h65 => ?_) (fun hc => by exact absurd hc (by decide))
              have hE2 : dF (hi 85) (k + 1) = (-6, (pHear (hi 85 k) s)) := dF_ok hE (by unfold pstep; rw [if_pos (by omega), if_pos (by have := a6 (by omega); omega)])
              refine V.iconst (pc := 70) (z := 0) dX8_faultOfDays_70 rfl ⟨by decide, by decide⟩ ?_
              refine V.top (v' := vI ((rst (pHear (hi 85 k) s).1 : Nat) : Int)) (by rw [show (pHear (hi 85 k) s).1 = 0 by show (if s.1 = 1 then 3 else 0) = 0; rw [if_neg (by omega)]]; rfl) ?_
              refine V.istore_n (pc := 71) (i := 1) dX8_faultOfDays_71 rfl (by decide) (ls' := [(1, vI ((rst (pHear (hi 85 k) s).1 : Nat) : Int)), (4, vI (hi 85 k)), (0, vR 77), (2, vI ((rmn s : Nat) : Int)), (3, vI ((k : Nat) : Int))]) rfl ?_
              refine V.goto (pc := 72) 149 dX8_faultOfDays_72 (by decide) ?_
              refine V.iinc (pc := 149) (r := ((k + 1 : Nat) : Int)) 4 dX8_faultOfDays_149 rfl (w32_of (by omega) (by omega) (by omega)) (by decide) (ls' := [(3, vI ((k + 1 : Nat) : Int)), (1, vI ((rst (pHear (hi 85 k) s).1 : Nat) : Int)), (4, vI (hi 85 k)), (0, vR 77), (2, vI ((rmn s : Nat) : Int))]) rfl ?_
              refine V.goto (pc := 152) 6 dX8_faultOfDays_152 (by decide) ?_
              refine V.locs [3, 1, 4, 0] (ls' := [(0, vR 77), (1, vI ((rst (pHear (hi 85 k) s).1 : Nat) : Int)), (2, vI ((rmn s : Nat) : Int)), (3, vI ((k + 1 : Nat) : Int))]) rfl ?_
              have hrn : rmn s = rmn (pHear (hi 85 k) s) := by have q := (rmn_f (pHear (hi 85 k) s)).2 (by show ¬ ((if s.1 = 1 then 3 else 0) = 1 ∨ (if s.1 = 1 then 3 else 0) = 2); split <;> omega); have q2 : (pHear (hi 85 k) s).2.2.1 = s.2.2.1 + 1 := rfl; have q3 := hmn.1 (by omega); omega
              rw [hrn]
              exact ih6 (k + 1) (pHear (hi 85 k) s) (by omega) (hE2) (fun h => by exfalso; have h : (if s.1 = 1 then 3 else 0) = 1 := h; split at h <;> omega) (by omega)
            · skip
              refine V.qI (pc := 62) rfl rfl ?_
              refine V.if_ne (pc := 65) 70 dX8_faultOfDays_65 (by decide) (fun hc => by exact absurd hc (by decide)) (fun h65 => ?_)
              refine V.iload_n (pc := 68) 4 dX8_faultOfDays_68 rfl ?_
              refine V.iret (pc := 69) (z := ((k : Nat) : Int)) dX8_faultOfDays_69 rfl ?_
              have e := dayF_bad hE (by unfold pstep; rw [if_pos (by omega), if_neg (by omega)]) (show k < m by omega)
              rw [e] at hq
              exact hq
        · skip
          refine V.iload (pc := 27) 0 dX8_faultOfDays_27 rfl ?_
          refine V.callS (pc := 29) (e1 := eX8_isLetter) 1 [vI (hi 85 k)] [] mfX8_isLetter slX8_isLetter mlX8_120 dX8_faultOfDays_29 rfl rfl (Nat.le_of_ble_eq_true rfl) ⟨by decide, by decide, by decide, by decide⟩ ?_
          refine c_X8_isLetter KW hi hl (hi 85 k) _ (fun hbL => ?_) (fun hbL => ?_)
          · skip
            refine V.qI (pc := 29) rfl rfl ?_
            refine V.if_eq (pc := 32) 48 dX8_faultOfDays_32 (by decide) (fun hc => by exact absurd hc (by decide)) (fun h32 => ?_)
            refine V.iload (pc := 35) 0 dX8_faultOfDays_35 rfl ?_
            refine V.aload_n (pc := 37) 1 dX8_faultOfDays_37 rfl ?_
            refine V.gr (pc := 38) 8 12 85 flX8_31 dX8_faultOfDays_38 (kS_77) (by decide) (by decide) rfl (kR_77_12) ?_
            refine V.iload_n (pc := 41) 4 dX8_faultOfDays_41 rfl ?_
            refine V.iconst (pc := 42) (z := 1) dX8_faultOfDays_42 rfl ⟨by decide, by decide⟩ ?_
            refine V.isub (pc := 43) ((((k - 1) : Nat) : Int)) dX8_faultOfDays_43 (subN (a := k) (b := 1) (by have := (hsp (by omega)).1; omega) (by omega)) ?_
            refine V.ia (pc := 44) (len := 48) (k - 1) (hi 85 (k - 1)) dX8_faultOfDays_44 (kS_85) (by omega) (by omega) (rfl) ?_
            refine V.icmp_ne (pc := 45) 50 dX8_faultOfDays_45 (by decide) (fun h45 => ?_) (fun h45 => ?_)
            · skip
              have hE2 : dF (hi 85) (k + 1) = (-6, (pHear (hi 85 k) s)) := dF_ok hE (by unfold pstep; rw [if_pos (by omega), if_pos ⟨by omega, fun q => h45 (spOf_i (x := hi 85 (k - 1)) (c := hi 85 k) (by omega) (by rw [← (hsp (by omega)).2]; omega)).symm⟩])
              refine V.iconst (pc := 50) (z := 2) dX8_faultOfDays_50 rfl ⟨by decide, by decide⟩ ?_
              refine V.top (v' := vI ((rst (pHear (hi 85 k) s).1 : Nat) : Int)) (by rw [show (pHear (hi 85 k) s).1 = 3 by show (if s.1 = 1 then 3 else 0) = 3; rw [if_pos (by omega)]]; rfl) ?_
              refine V.istore_n (pc := 51) (i := 1) dX8_faultOfDays_51 rfl (by decide) (ls' := [(1, vI ((rst (pHear (hi 85 k) s).1 : Nat) : Int)), (4, vI (hi 85 k)), (0, vR 77), (2, vI ((rmn s : Nat) : Int)), (3, vI ((k : Nat) : Int))]) rfl ?_
              refine V.goto (pc := 52) 149 dX8_faultOfDays_52 (by decide) ?_
              refine V.iinc (pc := 149) (r := ((k + 1 : Nat) : Int)) 4 dX8_faultOfDays_149 rfl (w32_of (by omega) (by omega) (by omega)) (by decide) (ls' := [(3, vI ((k + 1 : Nat) : Int)), (1, vI ((rst (pHear (hi 85 k) s).1 : Nat) : Int)), (4, vI (hi 85 k)), (0, vR 77), (2, vI ((rmn s : Nat) : Int))]) rfl ?_
              refine V.goto (pc := 152) 6 dX8_faultOfDays_152 (by decide) ?_
              refine V.locs [3, 1, 4, 0] (ls' := [(0, vR 77), (1, vI ((rst (pHear (hi 85 k) s).1 : Nat) : Int)), (2, vI ((rmn s : Nat) : Int)), (3, vI ((k + 1 : Nat) : Int))]) rfl ?_
              have hrn : rmn s = rmn (pHear (hi 85 k) s) := by have q := (rmn_f (pHear (hi 85 k) s)).2 (by show ¬ ((if s.1 = 1 then 3 else 0) = 1 ∨ (if s.1 = 1 then 3 else 0) = 2); split <;> omega); have q2 : (pHear (hi 85 k) s).2.2.1 = s.2.2.1 + 1 := rfl; have q3 := hmn.1 (by omega); omega
              rw [hrn]
              exact ih6 (k + 1) (pHear (hi 85 k) s) (by omega) (hE2) (fun h => by exfalso; have h : (if s.1 = 1 then 3 else 0) = 1 := h; split at h <;> omega) (by omega)
            · have h45e : hi 85 k = hi 85 (k - 1) := by omega
              refine V.iload_n (pc := 48) 4 dX8_faultOfDays_48 rfl ?_
              refine V.iret (pc := 49) (z := ((k : Nat) : Int)) dX8_faultOfDays_49 rfl ?_
              have e := dayF_bad hE (by unfold pstep; rw [if_pos (by omega), if_neg (fun q => by first | omega | exact q.2 (by rw [(hsp (by omega)).2, ← h45e, spOf_l (by omega)]))]) (show k < m by omega)
              rw [e] at hq
              exact hq
          · skip
            refine V.qI (pc := 29) rfl rfl ?_
            refine V.if_eq (pc := 32) 48 dX8_faultOfDays_32 (by decide) (fun h32 => ?_) (fun hc => by exact absurd hc (by decide))
            refine V.iload_n (pc := 48) 4 dX8_faultOfDays_48 rfl ?_
            refine V.iret (pc := 49) (z := ((k : Nat) : Int)) dX8_faultOfDays_49 rfl ?_
            have e := dayF_bad hE (by unfold pstep; rw [if_pos (by omega), if_neg (fun q => by first | omega | exact q.2 (by rw [(hsp (by omega)).2, ← h45e, spOf_l (by omega)]))]) (show k < m by omega)
            rw [e] at hq
            exact hq
  refine V.locs [3, 2, 1, 0] (ls' := [(0, vR 77), (1, vI 0), (2, vI 0), (3, vI 0)]) rfl ?_
  exact lp6 _ 0 p0 (by omega) (rfl) (fun h => by cases h) (Nat.lt_succ_self _)

