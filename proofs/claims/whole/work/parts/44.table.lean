set_option maxRecDepth 100000 in
theorem c_X8_maskOf (K : KK) (hi hl : HI) (birds : Nat) (hbi : birds < 64) (Q : QT) (hq : Q (some (vL (mkF birds : Nat))) K hi hl) : Con eX8_maskOf [vI (birds : Nat)] K hi hl Q := by
  refine Con.ofV (by decide +kernel) (Nat.le_of_ble_eq_true rfl) ?_
  show V eX8_maskOf none K 0 [(0, vI ((birds : Nat) : Int))] [] hi hl 0 0 Q
  refine V.lconst (pc := 0) (z := 0) dX8_maskOf_0 (by decide +kernel) ⟨by decide, by decide⟩ ?_
  refine V.lstore_n (pc := 1) (i := 1) dX8_maskOf_1 rfl (by decide) (ls' := [(1, vL 0), (0, vI ((birds : Nat) : Int))]) rfl ?_
  refine V.iconst (pc := 2) (z := 0) dX8_maskOf_2 rfl ⟨by decide, by decide⟩ ?_
  refine V.istore_n (pc := 3) (i := 3) dX8_maskOf_3 rfl (by decide) (ls' := [(3, vI 0), (1, vL 0), (0, vI ((birds : Nat) : Int))]) rfl ?_
  have lp4 : ∀ (fu4 : Nat) (b : Nat), (b ≤ 6) → 6 - b < fu4 → V eX8_maskOf none K 4 [(0, vI ((birds : Nat) : Int)), (1, vL (((encK (mdF birds) b) : Nat) : Int)), (3, vI ((b : Nat) : Int))] [] hi hl 0 0 Q := by
    intro fu4
    induction fu4 with
    | zero => intro b hb6 hm4; exact absurd hm4 (Nat.not_lt_zero _)
    | succ fu4 ih4 =>
      intro b hb6 hm4
      refine V.iload_n (pc := 4) 2 dX8_maskOf_4 rfl ?_
      refine V.bipush (pc := 5) (z := 6) dX8_maskOf_5 (by decide +kernel) ⟨by decide, by decide⟩ ?_
      refine V.icmp_ge (pc := 7) 38 dX8_maskOf_7 (by decide) (fun h7 => ?_) (fun h7 => ?_)
      · skip
        have e6 : b = 6 := by omega
        subst e6
        refine V.lload_n (pc := 38) 1 dX8_maskOf_38 rfl ?_
        refine V.lret (pc := 39) (z := (((encK (mdF birds) 6) : Nat) : Int)) dX8_maskOf_39 rfl ?_
        exact hq
      · have h45 := encK_45 (d := mdF birds) (m := b) (show b ≤ 5 by omega) (fun x hx => md_lt birds x)
        have h54 := encK_54 (d := mdF birds) (m := b + 1) (by omega) (fun x hx => md_lt birds x)
        have hdl := Nat.div_le_self birds (2 ^ b)
        have ha1 := Nat.and_le_right (n := birds / 2 ^ b) (m := 1)
        refine V.lload_n (pc := 10) 1 dX8_maskOf_10 rfl ?_
        refine V.bipush (pc := 11) (z := 9) dX8_maskOf_11 (by decide +kernel) ⟨by decide, by decide⟩ ?_
        refine V.lshl (pc := 13) (((((encK (mdF birds) b) * 512) : Nat) : Int)) dX8_maskOf_13 (shl9 _) (rL_n (by omega)) ?_
        refine V.iload_n (pc := 14) 0 dX8_maskOf_14 rfl ?_
        refine V.iload_n (pc := 15) 2 dX8_maskOf_15 rfl ?_
        refine V.ishr (pc := 16) (((birds / 2 ^ b : Nat) : Int)) dX8_maskOf_16 (hN (a := birds) (k := b) (by omega) (by omega)) (rI_n (by omega)) ?_
        refine V.iconst (pc := 17) (z := 1) dX8_maskOf_17 rfl ⟨by decide, by decide⟩ ?_
        refine V.iand (pc := 18) ((((birds / 2 ^ b) &&& 1 : Nat) : Int)) dX8_maskOf_18 (aN (birds / 2 ^ b) 1) (rI_n (by omega)) ?_
        refine V.iconst (pc := 19) (z := 1) dX8_maskOf_19 rfl ⟨by decide, by decide⟩ ?_
        refine V.icmp_ne (pc := 20) 29 dX8_maskOf_20 (by decide) (fun h20 => ?_) (fun h20 => ?_)
        · have hmd : mdF birds b = 0 := by rw [mk_bit, if_neg (by omega)]
          refine V.lconst (pc := 29) (z := 0) dX8_maskOf_29 (by decide +kernel) ⟨by decide, by decide⟩ ?_
          refine V.lor (pc := 30) ((((encK (mdF birds) (b + 1)) : Nat) : Int)) dX8_maskOf_30 (by rw [encK_s, hmd, ← or512 (by omega)]; exact oNL _ _) (rL_n (by omega)) ?_
          refine V.lstore_n (pc := 31) (i := 1) dX8_maskOf_31 rfl (by decide) (ls' := [(1, vL (((encK (mdF birds) (b + 1)) : Nat) : Int)), (0, vI ((birds : Nat) : Int)), (3, vI ((b : Nat) : Int))]) rfl ?_
          refine V.iinc (pc := 32) (r := ((b + 1 : Nat) : Int)) 2 dX8_maskOf_32 rfl (w32_of (by omega) (by omega) (by omega)) (by decide) (ls' := [(3, vI ((b + 1 : Nat) : Int)), (1, vL (((encK (mdF birds) (b + 1)) : Nat) : Int)), (0, vI ((birds : Nat) : Int))]) rfl ?_
          refine V.goto (pc := 35) 4 dX8_maskOf_35 (by decide) ?_
          refine V.locs [2, 1, 0] (ls' := [(0, vI ((birds : Nat) : Int)), (1, vL (((encK (mdF birds) (b + 1)) : Nat) : Int)), (3, vI ((b + 1 : Nat) : Int))]) rfl ?_
          exact ih4 (b + 1) (by omega) (by omega)
        · have hmd : mdF birds b = 511 := by rw [mk_bit, if_pos (by omega)]
          refine V.ldc2 (pc := 23) (z := 511) clX8_226 dX8_maskOf_23 ⟨by decide, by decide⟩ ?_
          refine V.goto (pc := 26) 30 dX8_maskOf_26 (by decide) ?_
          refine V.lor (pc := 30) ((((encK (mdF birds) (b + 1)) : Nat) : Int)) dX8_maskOf_30 (by rw [encK_s, hmd, ← or512 (by omega)]; exact oNL _ _) (rL_n (by omega)) ?_
          refine V.lstore_n (pc := 31) (i := 1) dX8_maskOf_31 rfl (by decide) (ls' := [(1, vL (((encK (mdF birds) (b + 1)) : Nat) : Int)), (0, vI ((birds : Nat) : Int)), (3, vI ((b : Nat) : Int))]) rfl ?_
          refine V.iinc (pc := 32) (r := ((b + 1 : Nat) : Int)) 2 dX8_maskOf_32 rfl (w32_of (by omega) (by omega) (by omega)) (by decide) (ls' := [(3, vI ((b + 1 : Nat) : Int)), (1, vL (((encK (mdF birds) (b + 1)) : Nat) : Int)), (0, vI ((birds : Nat) : Int))]) rfl ?_
          refine V.goto (pc := 35) 4 dX8_maskOf_35 (by decide) ?_
          refine V.locs [2, 1, 0] (ls' := [(0, vI ((birds : Nat) : Int)), (1, vL (((encK (mdF birds) (b + 1)) : Nat) : Int)), (3, vI ((b + 1 : Nat) : Int))]) rfl ?_
          exact ih4 (b + 1) (by omega) (by omega)
  refine V.locs [2, 1, 0] (ls' := [(0, vI ((birds : Nat) : Int)), (1, vL 0), (3, vI 0)]) rfl ?_
  exact lp4 _ 0 (by omega) (Nat.lt_succ_self _)

set_option maxRecDepth 100000 in
theorem c_X8_doubtful (hi hl : HI) (birds cnt : Nat) (hbi : birds < 64) (h21 : hi 77 21 = (cnt : Nat)) (hcn : cnt < 8000) (X ns : Nat → Nat) (hX : ∀ i, i < cnt → hl 90 i = ((X i : Nat) : Int) ∧ hi 91 i = ((ns i : Nat) : Int)) (hX2 : ∀ i, i < cnt → X i < 18014398509481984) (hns : ∀ i, i < cnt → ns i < 27) (Q : QT) (hq : ∀ (D : Nat) (f93 f92 : Nat → Int), D < 134217728 → (∀ j, D.testBit j = true ↔ ∃ i i', i < cnt ∧ i' < cnt ∧ ns i = j ∧ ns i' ≠ j ∧ xsF X birds i = xsF X birds i') → Q (some (vI (D : Nat))) KW (upR hi 93 f93) (upR hl 92 f92)) : Con eX8_doubtful [vR 77, vI (birds : Nat)] KW hi hl Q := by
  refine Con.ofV (by decide +kernel) (Nat.le_of_ble_eq_true rfl) ?_
  show V eX8_doubtful none KW 0 [(0, vR 77), (1, vI ((birds : Nat) : Int))] [] hi hl 0 0 Q
  refine V.hieq (hi' := (upR hi 93 (hi 93))) (by rw [upR_id]) ?_
  refine V.hleq (hl' := (upR hl 92 (hl 92))) (by rw [upR_id]) ?_
  have hmk := mk_lt birds
  refine V.iload_n (pc := 0) 1 dX8_doubtful_0 rfl ?_
  refine V.callS (pc := 1) (e1 := eX8_maskOf) 1 [vI ((birds : Nat) : Int)] [] mfX8_maskOf slX8_maskOf mlX8_228 dX8_doubtful_1 rfl rfl (Nat.le_of_ble_eq_true rfl) ⟨by decide, by decide, by decide, by decide⟩ ?_
  refine c_X8_maskOf KW (upR hi 93 (hi 93)) (upR hl 92 (hl 92)) birds (by omega) _ ?_
  refine V.qJ (pc := 1) rfl rfl ?_
  refine V.lstore_n (pc := 4) (i := 2) dX8_doubtful_4 rfl (by decide) (ls' := [(2, vL ((mkF birds : Nat) : Int)), (0, vR 77), (1, vI ((birds : Nat) : Int))]) rfl ?_
  refine V.iconst (pc := 5) (z := 0) dX8_doubtful_5 rfl ⟨by decide, by decide⟩ ?_
  refine V.istore (pc := 6) (i := 4) dX8_doubtful_6 (by decide) (ls' := [(4, vI 0), (2, vL ((mkF birds : Nat) : Int)), (0, vR 77), (1, vI ((birds : Nat) : Int))]) rfl ?_
  have lp8 : ∀ (fu8 : Nat) (k : Nat) (g : Nat → Int), (k ≤ 16384) → (∀ j, j < k → g j = 0) → 16384 - k < fu8 → V eX8_doubtful none KW 8 [(0, vR 77), (1, vI ((birds : Nat) : Int)), (2, vL ((mkF birds : Nat) : Int)), (4, vI ((k : Nat) : Int))] [] (upR hi 93 g) (upR hl 92 (hl 92)) 0 0 Q := by
    intro fu8
    induction fu8 with
    | zero => intro k g hk hg hm8; exact absurd hm8 (Nat.not_lt_zero _)
    | succ fu8 ih8 =>
      intro k g hk hg hm8
      refine V.iload (pc := 8) 3 dX8_doubtful_8 rfl ?_
      refine V.sipush (pc := 10) (z := 16384) dX8_doubtful_10 (by decide +kernel) ⟨by decide, by decide⟩ ?_
      refine V.icmp_ge (pc := 13) 30 dX8_doubtful_13 (by decide) (fun h13 => ?_) (fun h13 => ?_)
      · skip
        refine V.iconst (pc := 30) (z := 0) dX8_doubtful_30 rfl ⟨by decide, by decide⟩ ?_
        refine V.istore (pc := 31) (i := 4) dX8_doubtful_31 (by decide) (ls' := [(4, vI 0), (0, vR 77), (1, vI ((birds : Nat) : Int)), (2, vL ((mkF birds : Nat) : Int))]) rfl ?_
        have lp33 : ∀ (fu33 : Nat) (i : Nat) (fr : Nat → Int) (ky : Nat → Int), (i ≤ cnt) → (TI fr ky (xsF X birds) ns i) → cnt - i < fu33 → V eX8_doubtful none KW 33 [(0, vR 77), (1, vI ((birds : Nat) : Int)), (2, vL ((mkF birds : Nat) : Int)), (4, vI ((i : Nat) : Int))] [] (upR hi 93 fr) (upR hl 92 ky) 0 0 Q := by
          intro fu33
          induction fu33 with
          | zero => intro i fr ky hi6 hT hm33; exact absurd hm33 (Nat.not_lt_zero _)
          | succ fu33 ih33 =>
            intro i fr ky hi6 hT hm33
            refine V.iload (pc := 33) 3 dX8_doubtful_33 rfl ?_
            refine V.aload_n (pc := 35) 0 dX8_doubtful_35 rfl ?_
            refine V.gi (pc := 36) 8 21 ((cnt : Nat) : Int) flX8_214 dX8_doubtful_36 (kS_77) (by decide) (by decide) rfl (h21) ?_
            refine V.icmp_ge (pc := 39) 157 dX8_doubtful_39 (by decide) (fun h39 => ?_) (fun h39 => ?_)
            · have eic : i = cnt := by omega
              subst eic
              refine V.iconst (pc := 157) (z := 0) dX8_doubtful_157 rfl ⟨by decide, by decide⟩ ?_
              refine V.istore (pc := 158) (i := 4) dX8_doubtful_158 (by decide) (ls' := [(4, vI 0), (0, vR 77), (1, vI ((birds : Nat) : Int)), (2, vL ((mkF birds : Nat) : Int))]) rfl ?_
              refine V.iconst (pc := 160) (z := 0) dX8_doubtful_160 rfl ⟨by decide, by decide⟩ ?_
              refine V.istore (pc := 161) (i := 5) dX8_doubtful_161 (by decide) (ls' := [(5, vI 0), (4, vI 0), (0, vR 77), (1, vI ((birds : Nat) : Int)), (2, vL ((mkF birds : Nat) : Int))]) rfl ?_
              have lp163 : ∀ (fu163 : Nat) (k : Nat), (k ≤ 16384) → 16384 - k < fu163 → V eX8_doubtful none KW 163 [(0, vR 77), (1, vI ((birds : Nat) : Int)), (2, vL ((mkF birds : Nat) : Int)), (4, vI (((dvF fr k) : Nat) : Int)), (5, vI ((k : Nat) : Int))] [] (upR hi 93 fr) (upR hl 92 ky) 0 0 Q := by
                intro fu163
                induction fu163 with
                | zero => intro k hk2 hm163; exact absurd hm163 (Nat.not_lt_zero _)
                | succ fu163 ih163 =>
                  intro k hk2 hm163
                  refine V.iload (pc := 163) 4 dX8_doubtful_163 rfl ?_
                  refine V.sipush (pc := 165) (z := 16384) dX8_doubtful_165 (by decide +kernel) ⟨by decide, by decide⟩ ?_
                  refine V.icmp_ge (pc := 168) 207 dX8_doubtful_168 (by decide) (fun h168 => ?_) (fun h168 => ?_)
                  · skip
                    refine V.iload (pc := 207) 3 dX8_doubtful_207 rfl ?_
                    refine V.iret (pc := 209) (z := (((dvF fr k) : Nat) : Int)) dX8_doubtful_209 rfl ?_
                    have ek : k = 16384 := by omega
                    have edv := dv_27 hT hk2
                    exact hq (dvF fr k) _ _ edv (fun j => by rw [ek]; exact TI_D hT j (fun i2 hi2 => hns i2 (by omega)))
                  · obtain ⟨F, hF, hFl⟩ := TI_F hT (show k < 16384 by omega)
                    have hFt : (fr k).toNat = F := by rw [hF]; exact Int.toNat_natCast F
                    refine V.iload (pc := 171) 3 dX8_doubtful_171 rfl ?_
                    refine V.aload_n (pc := 173) 0 dX8_doubtful_173 rfl ?_
                    refine V.gr (pc := 174) 8 23 93 flX8_57 dX8_doubtful_174 (kS_77) (by decide) (by decide) rfl (kR_77_23) ?_
                    refine V.iload (pc := 177) 4 dX8_doubtful_177 rfl ?_
                    refine V.ia (pc := 179) (len := 16384) k ((F : Nat) : Int) dX8_doubtful_179 (kS_93) (rfl) (by omega) (hF) ?_
                    refine V.callS (pc := 180) (e1 := eX8_ones) 1 [vI ((F : Nat) : Int)] [vI (((dvF fr k) : Nat) : Int)] mfX8_ones slX8_ones mlX8_236 dX8_doubtful_180 rfl rfl (Nat.le_of_ble_eq_true rfl) ⟨by decide, by decide, by decide, by decide⟩ ?_
                    refine c_X8_ones KW (upR hi 93 fr) (upR hl 92 ky) F (by omega) _ ?_
                    refine V.qI (pc := 180) rfl rfl ?_
                    refine V.iconst (pc := 183) (z := 1) dX8_doubtful_183 rfl ⟨by decide, by decide⟩ ?_
                    refine V.icmp_le (pc := 184) 197 dX8_doubtful_184 (by decide) (fun h184 => ?_) (fun h184 => ?_)
                    · skip
                      refine V.iconst (pc := 197) (z := 0) dX8_doubtful_197 rfl ⟨by decide, by decide⟩ ?_
                      refine V.ior (pc := 198) ((((dvF fr (k + 1)) : Nat) : Int)) dX8_doubtful_198 (by rw [dvF_s, hFt, if_neg (by omega)]; have hz := oN (dvF fr k) 0; rw [Nat.or_zero] at hz; exact hz) (rI_n (by have := dv_27 hT (k := k + 1) (by omega); omega)) ?_
                      refine V.istore (pc := 199) (i := 4) dX8_doubtful_199 (by decide) (ls' := [(4, vI (((dvF fr (k + 1)) : Nat) : Int)), (0, vR 77), (1, vI ((birds : Nat) : Int)), (2, vL ((mkF birds : Nat) : Int)), (5, vI ((k : Nat) : Int))]) rfl ?_
                      refine V.iinc (pc := 201) (r := ((k + 1 : Nat) : Int)) 4 dX8_doubtful_201 rfl (w32_of (by omega) (by omega) (by omega)) (by decide) (ls' := [(5, vI ((k + 1 : Nat) : Int)), (4, vI (((dvF fr (k + 1)) : Nat) : Int)), (0, vR 77), (1, vI ((birds : Nat) : Int)), (2, vL ((mkF birds : Nat) : Int))]) rfl ?_
                      refine V.goto (pc := 204) 163 dX8_doubtful_204 (by decide) ?_
                      refine V.locs [2, 3, 4, 1, 0] (ls' := [(0, vR 77), (1, vI ((birds : Nat) : Int)), (2, vL ((mkF birds : Nat) : Int)), (4, vI (((dvF fr (k + 1)) : Nat) : Int)), (5, vI ((k + 1 : Nat) : Int))]) rfl ?_
                      exact ih163 (k + 1) (by omega) (by omega)
                    · skip
                      refine V.aload_n (pc := 187) 0 dX8_doubtful_187 rfl ?_
                      refine V.gr (pc := 188) 8 23 93 flX8_57 dX8_doubtful_188 (kS_77) (by decide) (by decide) rfl (kR_77_23) ?_
                      refine V.iload (pc := 191) 4 dX8_doubtful_191 rfl ?_
                      refine V.ia (pc := 193) (len := 16384) k ((F : Nat) : Int) dX8_doubtful_193 (kS_93) (rfl) (by omega) (hF) ?_
                      refine V.goto (pc := 194) 198 dX8_doubtful_194 (by decide) ?_
                      refine V.ior (pc := 198) ((((dvF fr (k + 1)) : Nat) : Int)) dX8_doubtful_198 (by rw [dvF_s, hFt, if_pos (by omega)]; exact oN _ _) (rI_n (by have := dv_27 hT (k := k + 1) (by omega); omega)) ?_
                      refine V.istore (pc := 199) (i := 4) dX8_doubtful_199 (by decide) (ls' := [(4, vI (((dvF fr (k + 1)) : Nat) : Int)), (0, vR 77), (1, vI ((birds : Nat) : Int)), (2, vL ((mkF birds : Nat) : Int)), (5, vI ((k : Nat) : Int))]) rfl ?_
                      refine V.iinc (pc := 201) (r := ((k + 1 : Nat) : Int)) 4 dX8_doubtful_201 rfl (w32_of (by omega) (by omega) (by omega)) (by decide) (ls' := [(5, vI ((k + 1 : Nat) : Int)), (4, vI (((dvF fr (k + 1)) : Nat) : Int)), (0, vR 77), (1, vI ((birds : Nat) : Int)), (2, vL ((mkF birds : Nat) : Int))]) rfl ?_
                      refine V.goto (pc := 204) 163 dX8_doubtful_204 (by decide) ?_
                      refine V.locs [2, 3, 4, 1, 0] (ls' := [(0, vR 77), (1, vI ((birds : Nat) : Int)), (2, vL ((mkF birds : Nat) : Int)), (4, vI (((dvF fr (k + 1)) : Nat) : Int)), (5, vI ((k + 1 : Nat) : Int))]) rfl ?_
                      exact ih163 (k + 1) (by omega) (by omega)
              refine V.locs [2, 3, 4, 1, 0] (ls' := [(0, vR 77), (1, vI ((birds : Nat) : Int)), (2, vL ((mkF birds : Nat) : Int)), (4, vI 0), (5, vI 0)]) rfl ?_
              exact lp163 _ 0 (by omega) (Nat.lt_succ_self _)
            · have hxi := hX i (by omega)
              have hx2 := hX2 i (by omega)
              have hn27 := hns i (by omega)
              obtain ⟨x, hxe⟩ : ∃ x, x = xsF X birds i := ⟨_, rfl⟩
              have hxl : x < 18014398509481984 := by rw [hxe]; exact xs_lt X birds i
              obtain ⟨mu, sh, z, h0, hmu, hsh, hrl, hz1, hz2, hh0, hz3, hz4, hz5⟩ := hash_ex x
              refine V.aload_n (pc := 42) 0 dX8_doubtful_42 rfl ?_
              refine V.gr (pc := 43) 8 19 90 flX8_48 dX8_doubtful_43 (kS_77) (by decide) (by decide) rfl (kR_77_19) ?_
              refine V.iload (pc := 46) 3 dX8_doubtful_46 rfl ?_
              refine V.la (pc := 48) (len := 8000) i ((X i : Nat) : Int) dX8_doubtful_48 (kS_90) (rfl) (by omega) (hxi.1) ?_
              refine V.lload_n (pc := 49) 2 dX8_doubtful_49 rfl ?_
              refine V.land (pc := 50) (((x : Nat) : Int)) dX8_doubtful_50 (by rw [hxe]; exact aNL (X i) (mkF birds)) (rL_n (by omega)) ?_
              refine V.lstore (pc := 51) (i := 5) dX8_doubtful_51 (by decide) (ls' := [(5, vL ((x : Nat) : Int)), (0, vR 77), (1, vI ((birds : Nat) : Int)), (2, vL ((mkF birds : Nat) : Int)), (4, vI ((i : Nat) : Int))]) rfl ?_
              refine V.lload (pc := 53) 0 dX8_doubtful_53 rfl ?_
              refine V.ldc2 (pc := 55) (z := 2654435761) clX8_232 dX8_doubtful_55 ⟨by decide, by decide⟩ ?_
              refine V.lmul (pc := 58) (mu) dX8_doubtful_58 hmu ?_
              refine V.bipush (pc := 59) (z := 20) dX8_doubtful_59 (by decide +kernel) ⟨by decide, by decide⟩ ?_
              refine V.lshr (pc := 61) (sh) dX8_doubtful_61 hsh hrl ?_
              refine V.ldc2 (pc := 62) (z := 16384) clX8_234 dX8_doubtful_62 ⟨by decide, by decide⟩ ?_
              refine V.lrem (pc := 65) (z) dX8_doubtful_65 (by omega) hz1 ⟨by omega, by omega⟩ ?_
              refine V.l2i (pc := 66) (z) dX8_doubtful_66 (w32_of rfl (by omega) (by omega)) ?_
              refine V.istore (pc := 67) (i := 7) dX8_doubtful_67 (by decide) (ls' := [(7, vI z), (5, vL ((x : Nat) : Int)), (0, vR 77), (1, vI ((birds : Nat) : Int)), (2, vL ((mkF birds : Nat) : Int)), (4, vI ((i : Nat) : Int))]) rfl ?_
              refine V.iload (pc := 69) 0 dX8_doubtful_69 rfl ?_
              refine V.if_ge (pc := 71) 83 dX8_doubtful_71 (by decide) (fun h71 => ?_) (fun h71 => ?_)
              · skip
                refine V.iload (pc := 83) 0 dX8_doubtful_83 rfl ?_
                refine V.top (v' := vI ((((h0 + 0) % 16384) : Nat) : Int)) (congrArg vI (by have := hz5 (by omega); omega)) ?_
                refine V.istore (pc := 85) (i := 7) dX8_doubtful_85 (by decide) (ls' := [(7, vI ((((h0 + 0) % 16384) : Nat) : Int)), (5, vL ((x : Nat) : Int)), (0, vR 77), (1, vI ((birds : Nat) : Int)), (2, vL ((mkF birds : Nat) : Int)), (4, vI ((i : Nat) : Int))]) rfl ?_
                have lp87 : ∀ (fu87 : Nat) (t : Nat), (PB fr ky x t) → 16384 - t < fu87 → V eX8_doubtful none KW 87 [(0, vR 77), (1, vI ((birds : Nat) : Int)), (2, vL ((mkF birds : Nat) : Int)), (4, vI ((i : Nat) : Int)), (5, vL ((x : Nat) : Int)), (7, vI ((((h0 + t) % 16384) : Nat) : Int))] [] (upR hi 93 fr) (upR hl 92 ky) 0 0 Q := by
                  intro fu87
                  induction fu87 with
                  | zero => intro t hP hm87; exact absurd hm87 (Nat.not_lt_zero _)
                  | succ fu87 ih87 =>
                    intro t hP hm87
                    have htl := PB_lt hT (show i < 16384 by omega) hP
                    obtain ⟨F, hF, hFl⟩ := TI_F hT (show ((h0 + t) % 16384) < 16384 by omega)
                    refine V.aload_n (pc := 87) 0 dX8_doubtful_87 rfl ?_
                    refine V.gr (pc := 88) 8 23 93 flX8_57 dX8_doubtful_88 (kS_77) (by decide) (by decide) rfl (kR_77_23) ?_
                    refine V.iload (pc := 91) 5 dX8_doubtful_91 rfl ?_
                    refine V.ia (pc := 93) (len := 16384) ((h0 + t) % 16384) ((F : Nat) : Int) dX8_doubtful_93 (kS_93) (rfl) (by omega) (hF) ?_
                    refine V.if_eq (pc := 94) 123 dX8_doubtful_94 (by decide) (fun h94 => ?_) (fun h94 => ?_)
                    · have hor : fr ((h0 + t) % 16384) = 0 ∨ ky ((h0 + t) % 16384) = ((x : Nat) : Int) := Or.inl (by rw [hF]; omega)
                      have h2n := p226 hn27
                      have ho27 := or_27' hFl hn27
                      refine V.aload_n (pc := 123) 0 dX8_doubtful_123 rfl ?_
                      refine V.gr (pc := 124) 8 22 92 flX8_54 dX8_doubtful_124 (kS_77) (by decide) (by decide) rfl (kR_77_22) ?_
                      refine V.iload (pc := 127) 5 dX8_doubtful_127 rfl ?_
                      refine V.lload (pc := 129) 4 dX8_doubtful_129 rfl ?_
                      refine V.js (pc := 131) (len := 16384) (hl' := (upR hl 92 (updF ky ((h0 + t) % 16384) ((x : Nat) : Int)))) ((h0 + t) % 16384) dX8_doubtful_131 (kS_92) (rfl) (by omega) u1 ?_
                      refine V.aload_n (pc := 132) 0 dX8_doubtful_132 rfl ?_
                      refine V.gr (pc := 133) 8 23 93 flX8_57 dX8_doubtful_133 (kS_77) (by decide) (by decide) rfl (kR_77_23) ?_
                      refine V.iload (pc := 136) 5 dX8_doubtful_136 rfl ?_
                      refine V.dup2 (pc := 138) dX8_doubtful_138 rfl rfl ?_
                      refine V.ia (pc := 139) (len := 16384) ((h0 + t) % 16384) ((F : Nat) : Int) dX8_doubtful_139 (kS_93) (rfl) (by omega) (hF) ?_
                      refine V.iconst (pc := 140) (z := 1) dX8_doubtful_140 rfl ⟨by decide, by decide⟩ ?_
                      refine V.aload_n (pc := 141) 0 dX8_doubtful_141 rfl ?_
                      refine V.gr (pc := 142) 8 20 91 flX8_51 dX8_doubtful_142 (kS_77) (by decide) (by decide) rfl (kR_77_20) ?_
                      refine V.iload (pc := 145) 3 dX8_doubtful_145 rfl ?_
                      refine V.ia (pc := 147) (len := 8000) i ((ns i : Nat) : Int) dX8_doubtful_147 (kS_91) (rfl) (by omega) (hxi.2) ?_
                      refine V.ishl (pc := 148) ((((1 * 2 ^ ns i) : Nat) : Int)) dX8_doubtful_148 (sN (a := 1) (by omega) (by omega)) (rI_n (by omega)) ?_
                      refine V.ior (pc := 149) ((((F ||| 1 * 2 ^ ns i) : Nat) : Int)) dX8_doubtful_149 (oN F (1 * 2 ^ ns i)) (rI_n (by omega)) ?_
                      refine V.is (pc := 150) (len := 16384) (hi' := (upR hi 93 (updF fr ((h0 + t) % 16384) (((F ||| 1 * 2 ^ ns i) : Nat) : Int)))) ((h0 + t) % 16384) dX8_doubtful_150 (kS_93) (rfl) (by omega) u1 ?_
                      refine V.iinc (pc := 151) (r := ((i + 1 : Nat) : Int)) 3 dX8_doubtful_151 rfl (w32_of (by omega) (by omega) (by omega)) (by decide) (ls' := [(4, vI ((i + 1 : Nat) : Int)), (0, vR 77), (1, vI ((birds : Nat) : Int)), (2, vL ((mkF birds : Nat) : Int)), (5, vL ((x : Nat) : Int)), (7, vI ((((h0 + t) % 16384) : Nat) : Int))]) rfl ?_
                      refine V.goto (pc := 154) 33 dX8_doubtful_154 (by decide) ?_
                      refine V.locs [1, 2, 3, 0] (ls' := [(0, vR 77), (1, vI ((birds : Nat) : Int)), (2, vL ((mkF birds : Nat) : Int)), (4, vI ((i + 1 : Nat) : Int))]) rfl ?_
                      exact ih33 (i + 1) (updF fr ((h0 + t) % 16384) (((F ||| 1 * 2 ^ ns i) : Nat) : Int)) (updF ky ((h0 + t) % 16384) ((x : Nat) : Int)) (by omega) (TI_s' hh0 hxe hT (hns i (by omega)) hP hF hor) (by omega)
                    · skip
                      refine V.aload_n (pc := 97) 0 dX8_doubtful_97 rfl ?_
                      refine V.gr (pc := 98) 8 22 92 flX8_54 dX8_doubtful_98 (kS_77) (by decide) (by decide) rfl (kR_77_22) ?_
                      refine V.iload (pc := 101) 5 dX8_doubtful_101 rfl ?_
                      refine V.la (pc := 103) (len := 16384) ((h0 + t) % 16384) (ky ((h0 + t) % 16384)) dX8_doubtful_103 (kS_92) (rfl) (by omega) (rfl) ?_
                      refine V.lload (pc := 104) 4 dX8_doubtful_104 rfl ?_
                      refine V.lcmp (pc := 106) dX8_doubtful_106 ?_
                      refine V.if_eq (pc := 107) 123 dX8_doubtful_107 (by decide) (fun h107 => ?_) (fun h107 => ?_)
                      · have hor : fr ((h0 + t) % 16384) = 0 ∨ ky ((h0 + t) % 16384) = ((x : Nat) : Int) := Or.inr (lcmp_eq.mp h107)
                        have h2n := p226 hn27
                        have ho27 := or_27' hFl hn27
                        refine V.aload_n (pc := 123) 0 dX8_doubtful_123 rfl ?_
                        refine V.gr (pc := 124) 8 22 92 flX8_54 dX8_doubtful_124 (kS_77) (by decide) (by decide) rfl (kR_77_22) ?_
                        refine V.iload (pc := 127) 5 dX8_doubtful_127 rfl ?_
                        refine V.lload (pc := 129) 4 dX8_doubtful_129 rfl ?_
                        refine V.js (pc := 131) (len := 16384) (hl' := (upR hl 92 (updF ky ((h0 + t) % 16384) ((x : Nat) : Int)))) ((h0 + t) % 16384) dX8_doubtful_131 (kS_92) (rfl) (by omega) u1 ?_
                        refine V.aload_n (pc := 132) 0 dX8_doubtful_132 rfl ?_
                        refine V.gr (pc := 133) 8 23 93 flX8_57 dX8_doubtful_133 (kS_77) (by decide) (by decide) rfl (kR_77_23) ?_
                        refine V.iload (pc := 136) 5 dX8_doubtful_136 rfl ?_
                        refine V.dup2 (pc := 138) dX8_doubtful_138 rfl rfl ?_
                        refine V.ia (pc := 139) (len := 16384) ((h0 + t) % 16384) ((F : Nat) : Int) dX8_doubtful_139 (kS_93) (rfl) (by omega) (hF) ?_
                        refine V.iconst (pc := 140) (z := 1) dX8_doubtful_140 rfl ⟨by decide, by decide⟩ ?_
                        refine V.aload_n (pc := 141) 0 dX8_doubtful_141 rfl ?_
                        refine V.gr (pc := 142) 8 20 91 flX8_51 dX8_doubtful_142 (kS_77) (by decide) (by decide) rfl (kR_77_20) ?_
                        refine V.iload (pc := 145) 3 dX8_doubtful_145 rfl ?_
                        refine V.ia (pc := 147) (len := 8000) i ((ns i : Nat) : Int) dX8_doubtful_147 (kS_91) (rfl) (by omega) (hxi.2) ?_
                        refine V.ishl (pc := 148) ((((1 * 2 ^ ns i) : Nat) : Int)) dX8_doubtful_148 (sN (a := 1) (by omega) (by omega)) (rI_n (by omega)) ?_
                        refine V.ior (pc := 149) ((((F ||| 1 * 2 ^ ns i) : Nat) : Int)) dX8_doubtful_149 (oN F (1 * 2 ^ ns i)) (rI_n (by omega)) ?_
                        refine V.is (pc := 150) (len := 16384) (hi' := (upR hi 93 (updF fr ((h0 + t) % 16384) (((F ||| 1 * 2 ^ ns i) : Nat) : Int)))) ((h0 + t) % 16384) dX8_doubtful_150 (kS_93) (rfl) (by omega) u1 ?_
                        refine V.iinc (pc := 151) (r := ((i + 1 : Nat) : Int)) 3 dX8_doubtful_151 rfl (w32_of (by omega) (by omega) (by omega)) (by decide) (ls' := [(4, vI ((i + 1 : Nat) : Int)), (0, vR 77), (1, vI ((birds : Nat) : Int)), (2, vL ((mkF birds : Nat) : Int)), (5, vL ((x : Nat) : Int)), (7, vI ((((h0 + t) % 16384) : Nat) : Int))]) rfl ?_
                        refine V.goto (pc := 154) 33 dX8_doubtful_154 (by decide) ?_
                        refine V.locs [1, 2, 3, 0] (ls' := [(0, vR 77), (1, vI ((birds : Nat) : Int)), (2, vL ((mkF birds : Nat) : Int)), (4, vI ((i + 1 : Nat) : Int))]) rfl ?_
                        exact ih33 (i + 1) (updF fr ((h0 + t) % 16384) (((F ||| 1 * 2 ^ ns i) : Nat) : Int)) (updF ky ((h0 + t) % 16384) ((x : Nat) : Int)) (by omega) (TI_s' hh0 hxe hT (hns i (by omega)) hP hF hor) (by omega)
                      · skip
                        refine V.iload (pc := 110) 5 dX8_doubtful_110 rfl ?_
                        refine V.iconst (pc := 112) (z := 1) dX8_doubtful_112 rfl ⟨by decide, by decide⟩ ?_
                        refine V.iadd (pc := 113) ((((((h0 + t) % 16384) + 1) : Nat) : Int)) dX8_doubtful_113 (addN (a := ((h0 + t) % 16384)) (b := 1) (by omega)) ?_
                        refine V.sipush (pc := 114) (z := 16384) dX8_doubtful_114 (by decide +kernel) ⟨by decide, by decide⟩ ?_
                        refine V.irem (pc := 117) (((((h0 + (t + 1)) % 16384) : Nat) : Int)) dX8_doubtful_117 (by omega) (by rw [show (h0 + (t + 1)) % 16384 = (((h0 + t) % 16384) + 1) % 16384 by omega]; exact mN (a := ((h0 + t) % 16384) + 1) (b := 16384) (by omega) (by omega) (by omega)) (rI_n (by omega)) ?_
                        refine V.istore (pc := 118) (i := 7) dX8_doubtful_118 (by decide) (ls' := [(7, vI ((((h0 + (t + 1)) % 16384) : Nat) : Int)), (0, vR 77), (1, vI ((birds : Nat) : Int)), (2, vL ((mkF birds : Nat) : Int)), (4, vI ((i : Nat) : Int)), (5, vL ((x : Nat) : Int))]) rfl ?_
                        refine V.goto (pc := 120) 87 dX8_doubtful_120 (by decide) ?_
                        refine V.locs [1, 2, 3, 4, 5, 0] (ls' := [(0, vR 77), (1, vI ((birds : Nat) : Int)), (2, vL ((mkF birds : Nat) : Int)), (4, vI ((i : Nat) : Int)), (5, vL ((x : Nat) : Int)), (7, vI ((((h0 + (t + 1)) % 16384) : Nat) : Int))]) rfl ?_
                        exact ih87 (t + 1) (PB_s' hh0 hP (by rw [hF]; omega) (fun q => h107 (lcmp_eq.mpr q))) (by omega)
                refine V.locs [2, 3, 4, 5, 1, 0] (ls' := [(0, vR 77), (1, vI ((birds : Nat) : Int)), (2, vL ((mkF birds : Nat) : Int)), (4, vI ((i : Nat) : Int)), (5, vL ((x : Nat) : Int)), (7, vI ((((h0 + 0) % 16384) : Nat) : Int))]) rfl ?_
                exact lp87 _ 0 (fun u hu => absurd hu (Nat.not_lt_zero u)) (Nat.lt_succ_self _)
              · skip
                refine V.iload (pc := 74) 0 dX8_doubtful_74 rfl ?_
                refine V.sipush (pc := 76) (z := 16384) dX8_doubtful_76 (by decide +kernel) ⟨by decide, by decide⟩ ?_
                refine V.iadd (pc := 79) ((z + 16384)) dX8_doubtful_79 (w32_of (by omega) (by omega) (by omega)) ?_
                refine V.top (v' := vI ((((h0 + 0) % 16384) : Nat) : Int)) (congrArg vI (by have := hz4 (by omega); omega)) ?_
                refine V.goto (pc := 80) 85 dX8_doubtful_80 (by decide) ?_
                refine V.istore (pc := 85) (i := 7) dX8_doubtful_85 (by decide) (ls' := [(7, vI ((((h0 + 0) % 16384) : Nat) : Int)), (5, vL ((x : Nat) : Int)), (0, vR 77), (1, vI ((birds : Nat) : Int)), (2, vL ((mkF birds : Nat) : Int)), (4, vI ((i : Nat) : Int))]) rfl ?_
                have lp87 : ∀ (fu87 : Nat) (t : Nat), (PB fr ky x t) → 16384 - t < fu87 → V eX8_doubtful none KW 87 [(0, vR 77), (1, vI ((birds : Nat) : Int)), (2, vL ((mkF birds : Nat) : Int)), (4, vI ((i : Nat) : Int)), (5, vL ((x : Nat) : Int)), (7, vI ((((h0 + t) % 16384) : Nat) : Int))] [] (upR hi 93 fr) (upR hl 92 ky) 0 0 Q := by
                  intro fu87
                  induction fu87 with
                  | zero => intro t hP hm87; exact absurd hm87 (Nat.not_lt_zero _)
                  | succ fu87 ih87 =>
                    intro t hP hm87
                    have htl := PB_lt hT (show i < 16384 by omega) hP
                    obtain ⟨F, hF, hFl⟩ := TI_F hT (show ((h0 + t) % 16384) < 16384 by omega)
                    refine V.aload_n (pc := 87) 0 dX8_doubtful_87 rfl ?_
                    refine V.gr (pc := 88) 8 23 93 flX8_57 dX8_doubtful_88 (kS_77) (by decide) (by decide) rfl (kR_77_23) ?_
                    refine V.iload (pc := 91) 5 dX8_doubtful_91 rfl ?_
                    refine V.ia (pc := 93) (len := 16384) ((h0 + t) % 16384) ((F : Nat) : Int) dX8_doubtful_93 (kS_93) (rfl) (by omega) (hF) ?_
                    refine V.if_eq (pc := 94) 123 dX8_doubtful_94 (by decide) (fun h94 => ?_) (fun h94 => ?_)
                    · have hor : fr ((h0 + t) % 16384) = 0 ∨ ky ((h0 + t) % 16384) = ((x : Nat) : Int) := Or.inl (by rw [hF]; omega)
                      have h2n := p226 hn27
                      have ho27 := or_27' hFl hn27
                      refine V.aload_n (pc := 123) 0 dX8_doubtful_123 rfl ?_
                      refine V.gr (pc := 124) 8 22 92 flX8_54 dX8_doubtful_124 (kS_77) (by decide) (by decide) rfl (kR_77_22) ?_
                      refine V.iload (pc := 127) 5 dX8_doubtful_127 rfl ?_
                      refine V.lload (pc := 129) 4 dX8_doubtful_129 rfl ?_
                      refine V.js (pc := 131) (len := 16384) (hl' := (upR hl 92 (updF ky ((h0 + t) % 16384) ((x : Nat) : Int)))) ((h0 + t) % 16384) dX8_doubtful_131 (kS_92) (rfl) (by omega) u1 ?_
                      refine V.aload_n (pc := 132) 0 dX8_doubtful_132 rfl ?_
                      refine V.gr (pc := 133) 8 23 93 flX8_57 dX8_doubtful_133 (kS_77) (by decide) (by decide) rfl (kR_77_23) ?_
                      refine V.iload (pc := 136) 5 dX8_doubtful_136 rfl ?_
                      refine V.dup2 (pc := 138) dX8_doubtful_138 rfl rfl ?_
                      refine V.ia (pc := 139) (len := 16384) ((h0 + t) % 16384) ((F : Nat) : Int) dX8_doubtful_139 (kS_93) (rfl) (by omega) (hF) ?_
                      refine V.iconst (pc := 140) (z := 1) dX8_doubtful_140 rfl ⟨by decide, by decide⟩ ?_
                      refine V.aload_n (pc := 141) 0 dX8_doubtful_141 rfl ?_
                      refine V.gr (pc := 142) 8 20 91 flX8_51 dX8_doubtful_142 (kS_77) (by decide) (by decide) rfl (kR_77_20) ?_
                      refine V.iload (pc := 145) 3 dX8_doubtful_145 rfl ?_
                      refine V.ia (pc := 147) (len := 8000) i ((ns i : Nat) : Int) dX8_doubtful_147 (kS_91) (rfl) (by omega) (hxi.2) ?_
                      refine V.ishl (pc := 148) ((((1 * 2 ^ ns i) : Nat) : Int)) dX8_doubtful_148 (sN (a := 1) (by omega) (by omega)) (rI_n (by omega)) ?_
                      refine V.ior (pc := 149) ((((F ||| 1 * 2 ^ ns i) : Nat) : Int)) dX8_doubtful_149 (oN F (1 * 2 ^ ns i)) (rI_n (by omega)) ?_
                      refine V.is (pc := 150) (len := 16384) (hi' := (upR hi 93 (updF fr ((h0 + t) % 16384) (((F ||| 1 * 2 ^ ns i) : Nat) : Int)))) ((h0 + t) % 16384) dX8_doubtful_150 (kS_93) (rfl) (by omega) u1 ?_
                      refine V.iinc (pc := 151) (r := ((i + 1 : Nat) : Int)) 3 dX8_doubtful_151 rfl (w32_of (by omega) (by omega) (by omega)) (by decide) (ls' := [(4, vI ((i + 1 : Nat) : Int)), (0, vR 77), (1, vI ((birds : Nat) : Int)), (2, vL ((mkF birds : Nat) : Int)), (5, vL ((x : Nat) : Int)), (7, vI ((((h0 + t) % 16384) : Nat) : Int))]) rfl ?_
                      refine V.goto (pc := 154) 33 dX8_doubtful_154 (by decide) ?_
                      refine V.locs [1, 2, 3, 0] (ls' := [(0, vR 77), (1, vI ((birds : Nat) : Int)), (2, vL ((mkF birds : Nat) : Int)), (4, vI ((i + 1 : Nat) : Int))]) rfl ?_
                      exact ih33 (i + 1) (updF fr ((h0 + t) % 16384) (((F ||| 1 * 2 ^ ns i) : Nat) : Int)) (updF ky ((h0 + t) % 16384) ((x : Nat) : Int)) (by omega) (TI_s' hh0 hxe hT (hns i (by omega)) hP hF hor) (by omega)
                    · skip
                      refine V.aload_n (pc := 97) 0 dX8_doubtful_97 rfl ?_
                      refine V.gr (pc := 98) 8 22 92 flX8_54 dX8_doubtful_98 (kS_77) (by decide) (by decide) rfl (kR_77_22) ?_
                      refine V.iload (pc := 101) 5 dX8_doubtful_101 rfl ?_
                      refine V.la (pc := 103) (len := 16384) ((h0 + t) % 16384) (ky ((h0 + t) % 16384)) dX8_doubtful_103 (kS_92) (rfl) (by omega) (rfl) ?_
                      refine V.lload (pc := 104) 4 dX8_doubtful_104 rfl ?_
                      refine V.lcmp (pc := 106) dX8_doubtful_106 ?_
                      refine V.if_eq (pc := 107) 123 dX8_doubtful_107 (by decide) (fun h107 => ?_) (fun h107 => ?_)
                      · have hor : fr ((h0 + t) % 16384) = 0 ∨ ky ((h0 + t) % 16384) = ((x : Nat) : Int) := Or.inr (lcmp_eq.mp h107)
                        have h2n := p226 hn27
                        have ho27 := or_27' hFl hn27
                        refine V.aload_n (pc := 123) 0 dX8_doubtful_123 rfl ?_
                        refine V.gr (pc := 124) 8 22 92 flX8_54 dX8_doubtful_124 (kS_77) (by decide) (by decide) rfl (kR_77_22) ?_
                        refine V.iload (pc := 127) 5 dX8_doubtful_127 rfl ?_
                        refine V.lload (pc := 129) 4 dX8_doubtful_129 rfl ?_
                        refine V.js (pc := 131) (len := 16384) (hl' := (upR hl 92 (updF ky ((h0 + t) % 16384) ((x : Nat) : Int)))) ((h0 + t) % 16384) dX8_doubtful_131 (kS_92) (rfl) (by omega) u1 ?_
                        refine V.aload_n (pc := 132) 0 dX8_doubtful_132 rfl ?_
                        refine V.gr (pc := 133) 8 23 93 flX8_57 dX8_doubtful_133 (kS_77) (by decide) (by decide) rfl (kR_77_23) ?_
                        refine V.iload (pc := 136) 5 dX8_doubtful_136 rfl ?_
                        refine V.dup2 (pc := 138) dX8_doubtful_138 rfl rfl ?_
                        refine V.ia (pc := 139) (len := 16384) ((h0 + t) % 16384) ((F : Nat) : Int) dX8_doubtful_139 (kS_93) (rfl) (by omega) (hF) ?_
                        refine V.iconst (pc := 140) (z := 1) dX8_doubtful_140 rfl ⟨by decide, by decide⟩ ?_
                        refine V.aload_n (pc := 141) 0 dX8_doubtful_141 rfl ?_
                        refine V.gr (pc := 142) 8 20 91 flX8_51 dX8_doubtful_142 (kS_77) (by decide) (by decide) rfl (kR_77_20) ?_
                        refine V.iload (pc := 145) 3 dX8_doubtful_145 rfl ?_
                        refine V.ia (pc := 147) (len := 8000) i ((ns i : Nat) : Int) dX8_doubtful_147 (kS_91) (rfl) (by omega) (hxi.2) ?_
                        refine V.ishl (pc := 148) ((((1 * 2 ^ ns i) : Nat) : Int)) dX8_doubtful_148 (sN (a := 1) (by omega) (by omega)) (rI_n (by omega)) ?_
                        refine V.ior (pc := 149) ((((F ||| 1 * 2 ^ ns i) : Nat) : Int)) dX8_doubtful_149 (oN F (1 * 2 ^ ns i)) (rI_n (by omega)) ?_
                        refine V.is (pc := 150) (len := 16384) (hi' := (upR hi 93 (updF fr ((h0 + t) % 16384) (((F ||| 1 * 2 ^ ns i) : Nat) : Int)))) ((h0 + t) % 16384) dX8_doubtful_150 (kS_93) (rfl) (by omega) u1 ?_
                        refine V.iinc (pc := 151) (r := ((i + 1 : Nat) : Int)) 3 dX8_doubtful_151 rfl (w32_of (by omega) (by omega) (by omega)) (by decide) (ls' := [(4, vI ((i + 1 : Nat) : Int)), (0, vR 77), (1, vI ((birds : Nat) : Int)), (2, vL ((mkF birds : Nat) : Int)), (5, vL ((x : Nat) : Int)), (7, vI ((((h0 + t) % 16384) : Nat) : Int))]) rfl ?_
                        refine V.goto (pc := 154) 33 dX8_doubtful_154 (by decide) ?_
                        refine V.locs [1, 2, 3, 0] (ls' := [(0, vR 77), (1, vI ((birds : Nat) : Int)), (2, vL ((mkF birds : Nat) : Int)), (4, vI ((i + 1 : Nat) : Int))]) rfl ?_
                        exact ih33 (i + 1) (updF fr ((h0 + t) % 16384) (((F ||| 1 * 2 ^ ns i) : Nat) : Int)) (updF ky ((h0 + t) % 16384) ((x : Nat) : Int)) (by omega) (TI_s' hh0 hxe hT (hns i (by omega)) hP hF hor) (by omega)
                      · skip
                        refine V.iload (pc := 110) 5 dX8_doubtful_110 rfl ?_
                        refine V.iconst (pc := 112) (z := 1) dX8_doubtful_112 rfl ⟨by decide, by decide⟩ ?_
                        refine V.iadd (pc := 113) ((((((h0 + t) % 16384) + 1) : Nat) : Int)) dX8_doubtful_113 (addN (a := ((h0 + t) % 16384)) (b := 1) (by omega)) ?_
                        refine V.sipush (pc := 114) (z := 16384) dX8_doubtful_114 (by decide +kernel) ⟨by decide, by decide⟩ ?_
                        refine V.irem (pc := 117) (((((h0 + (t + 1)) % 16384) : Nat) : Int)) dX8_doubtful_117 (by omega) (by rw [show (h0 + (t + 1)) % 16384 = (((h0 + t) % 16384) + 1) % 16384 by omega]; exact mN (a := ((h0 + t) % 16384) + 1) (b := 16384) (by omega) (by omega) (by omega)) (rI_n (by omega)) ?_
                        refine V.istore (pc := 118) (i := 7) dX8_doubtful_118 (by decide) (ls' := [(7, vI ((((h0 + (t + 1)) % 16384) : Nat) : Int)), (0, vR 77), (1, vI ((birds : Nat) : Int)), (2, vL ((mkF birds : Nat) : Int)), (4, vI ((i : Nat) : Int)), (5, vL ((x : Nat) : Int))]) rfl ?_
                        refine V.goto (pc := 120) 87 dX8_doubtful_120 (by decide) ?_
                        refine V.locs [1, 2, 3, 4, 5, 0] (ls' := [(0, vR 77), (1, vI ((birds : Nat) : Int)), (2, vL ((mkF birds : Nat) : Int)), (4, vI ((i : Nat) : Int)), (5, vL ((x : Nat) : Int)), (7, vI ((((h0 + (t + 1)) % 16384) : Nat) : Int))]) rfl ?_
                        exact ih87 (t + 1) (PB_s' hh0 hP (by rw [hF]; omega) (fun q => h107 (lcmp_eq.mpr q))) (by omega)
                refine V.locs [2, 3, 4, 5, 1, 0] (ls' := [(0, vR 77), (1, vI ((birds : Nat) : Int)), (2, vL ((mkF birds : Nat) : Int)), (4, vI ((i : Nat) : Int)), (5, vL ((x : Nat) : Int)), (7, vI ((((h0 + 0) % 16384) : Nat) : Int))]) rfl ?_
                exact lp87 _ 0 (fun u hu => absurd hu (Nat.not_lt_zero u)) (Nat.lt_succ_self _)
        refine V.locs [1, 2, 3, 0] (ls' := [(0, vR 77), (1, vI ((birds : Nat) : Int)), (2, vL ((mkF birds : Nat) : Int)), (4, vI 0)]) rfl ?_
        exact lp33 _ 0 g (hl 92) (by omega) (TI_0 (fun j hj => hg j (by omega))) (Nat.lt_succ_self _)
      · skip
        refine V.aload_n (pc := 16) 0 dX8_doubtful_16 rfl ?_
        refine V.gr (pc := 17) 8 23 93 flX8_57 dX8_doubtful_17 (kS_77) (by decide) (by decide) rfl (kR_77_23) ?_
        refine V.iload (pc := 20) 3 dX8_doubtful_20 rfl ?_
        refine V.iconst (pc := 22) (z := 0) dX8_doubtful_22 rfl ⟨by decide, by decide⟩ ?_
        refine V.is (pc := 23) (len := 16384) (hi' := (upR hi 93 (updF g k 0))) k dX8_doubtful_23 (kS_93) (rfl) (by omega) u1 ?_
        refine V.iinc (pc := 24) (r := ((k + 1 : Nat) : Int)) 3 dX8_doubtful_24 rfl (w32_of (by omega) (by omega) (by omega)) (by decide) (ls' := [(4, vI ((k + 1 : Nat) : Int)), (0, vR 77), (1, vI ((birds : Nat) : Int)), (2, vL ((mkF birds : Nat) : Int))]) rfl ?_
        refine V.goto (pc := 27) 8 dX8_doubtful_27 (by decide) ?_
        refine V.locs [1, 2, 3, 0] (ls' := [(0, vR 77), (1, vI ((birds : Nat) : Int)), (2, vL ((mkF birds : Nat) : Int)), (4, vI ((k + 1 : Nat) : Int))]) rfl ?_
        exact ih8 (k + 1) (updF g k 0) (by omega) (fun j hj => by by_cases e : j = k; { rw [e, updF_s] }; { rw [updF_n e]; exact hg j (by omega) }) (by omega)
  refine V.locs [2, 3, 1, 0] (ls' := [(0, vR 77), (1, vI ((birds : Nat) : Int)), (2, vL ((mkF birds : Nat) : Int)), (4, vI 0)]) rfl ?_
  exact lp8 _ 0 (hi 93) (by omega) (fun j hj => absurd hj (Nat.not_lt_zero j)) (Nat.lt_succ_self _)

