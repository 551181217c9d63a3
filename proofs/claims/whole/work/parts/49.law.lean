set_option maxRecDepth 100000 in
theorem law_c0 {L : Nat} {xs : Nat → Int} (hxs : ∀ j, rI (xs j)) (hL : L ≤ 2560) (i : Nat) (hiL : i + 5 ≤ L) (hi hl : HI) (σ : SG) (m : Nat) (g : Nat → Int) (im : Nat → Option SG) (hC : RC hi hl (σ, m, g, im)) (hM : RMo hi hl (σ, m, g, im)) (ct775 : ∀ (hi' hl' : HI) (G' : GS), RC hi' hl' G' → RMo hi' hl' G' → V eL_law (some (L, xs)) KW 775 [(0, vR SC), (1, vR 0), (2, vR 77), (3, vI ((i : Nat) : Int))] [] hi' hl' 96 78974 QL) : V eL_law (some (L, xs)) KW 148 [(0, vR SC), (1, vR 0), (2, vR 77), (3, vI ((i : Nat) : Int))] [] hi hl 96 78974 QL := by
  refine V.aload_n (pc := 148) 1 dL_law_148 rfl ?_
  refine V.aload_n (pc := 149) 0 dL_law_149 rfl ?_
  refine V.iload_n (pc := 150) 3 dL_law_150 rfl ?_
  refine V.iconst (pc := 151) (z := 1) dL_law_151 rfl ⟨by decide, by decide⟩ ?_
  refine V.iadd (pc := 152) ((((i + 1) : Nat) : Int)) dL_law_152 (addN (a := i) (b := 1) (by omega)) ?_
  refine V.sald (pc := 153) (i + 1) dL_law_153 rfl (by omega) ?_
  refine V.aload_n (pc := 154) 0 dL_law_154 rfl ?_
  refine V.iload_n (pc := 155) 3 dL_law_155 rfl ?_
  refine V.iconst (pc := 156) (z := 2) dL_law_156 rfl ⟨by decide, by decide⟩ ?_
  refine V.iadd (pc := 157) ((((i + 2) : Nat) : Int)) dL_law_157 (addN (a := i) (b := 2) (by omega)) ?_
  refine V.sald (pc := 158) (i + 2) dL_law_158 rfl (by omega) ?_
  refine V.callV (pc := 159) (e1 := eX7_sort) (o := 0) (c := 7) 2 [vI (xs (i + 1)), vI (xs (i + 2))] [] mfX7_sort slX7_sort mlL_13 dL_law_159 (kS_0) (by decide) rfl rfl rfl (Nat.le_of_ble_eq_true rfl) ⟨by decide, by decide, by decide, by decide⟩ ?_
  refine c_X7_sort hi hl σ m g im hC (xs (i + 1)) (xs (i + 2))  _ (fun hi1 hl1 hfr1 hR1 => ?_)
  have hM1 := RM_fr hfr1 hM
  refine V.qI (pc := 159) rfl rfl ?_
  refine V.aload_n (pc := 162) 2 dL_law_162 rfl ?_
  refine V.aload_n (pc := 163) 0 dL_law_163 rfl ?_
  refine V.iload_n (pc := 164) 3 dL_law_164 rfl ?_
  refine V.iconst (pc := 165) (z := 1) dL_law_165 rfl ⟨by decide, by decide⟩ ?_
  refine V.iadd (pc := 166) ((((i + 1) : Nat) : Int)) dL_law_166 (addN (a := i) (b := 1) (by omega)) ?_
  refine V.sald (pc := 167) (i + 1) dL_law_167 rfl (by omega) ?_
  refine V.aload_n (pc := 168) 0 dL_law_168 rfl ?_
  refine V.iload_n (pc := 169) 3 dL_law_169 rfl ?_
  refine V.iconst (pc := 170) (z := 2) dL_law_170 rfl ⟨by decide, by decide⟩ ?_
  refine V.iadd (pc := 171) ((((i + 2) : Nat) : Int)) dL_law_171 (addN (a := i) (b := 2) (by omega)) ?_
  refine V.sald (pc := 172) (i + 2) dL_law_172 rfl (by omega) ?_
  refine V.callV (pc := 173) (e1 := eX8_sort) (o := 77) (c := 8) 2 [vI (xs (i + 1)), vI (xs (i + 2))] [vI (aSort (σ, m, g, im) (xs (i + 1)) (xs (i + 2)))] mfX8_sort slX8_sort mlL_17 dL_law_173 (kS_77) (by decide) rfl rfl rfl (Nat.le_of_ble_eq_true rfl) ⟨by decide, by decide, by decide, by decide⟩ ?_
  refine c_X8_sort hi1 hl1 σ m g im hM1 (xs (i + 1)) (xs (i + 2))  _ (fun hi2 hl2 hfr2 hR2 => ?_)
  have hC2 := RC_fr hfr2 hR1
  refine V.qI (pc := 173) rfl rfl ?_
  refine V.icmp_eq (pc := 176) 775 dL_law_176 (by decide) (fun h176 => ?_) (fun hc => by exact absurd rfl hc)
  exact ct775  (_) (_) (_) (hC2) (hR2)

set_option maxRecDepth 100000 in
theorem law_c1 {L : Nat} {xs : Nat → Int} (hxs : ∀ j, rI (xs j)) (hL : L ≤ 2560) (i : Nat) (hiL : i + 5 ≤ L) (hi hl : HI) (σ : SG) (m : Nat) (g : Nat → Int) (im : Nat → Option SG) (hC : RC hi hl (σ, m, g, im)) (hM : RMo hi hl (σ, m, g, im)) (ct775 : ∀ (hi' hl' : HI) (G' : GS), RC hi' hl' G' → RMo hi' hl' G' → V eL_law (some (L, xs)) KW 775 [(0, vR SC), (1, vR 0), (2, vR 77), (3, vI ((i : Nat) : Int))] [] hi' hl' 96 78974 QL) : V eL_law (some (L, xs)) KW 181 [(0, vR SC), (1, vR 0), (2, vR 77), (3, vI ((i : Nat) : Int))] [] hi hl 96 78974 QL := by
  refine V.aload_n (pc := 181) 1 dL_law_181 rfl ?_
  refine V.aload_n (pc := 182) 0 dL_law_182 rfl ?_
  refine V.iload_n (pc := 183) 3 dL_law_183 rfl ?_
  refine V.iconst (pc := 184) (z := 1) dL_law_184 rfl ⟨by decide, by decide⟩ ?_
  refine V.iadd (pc := 185) ((((i + 1) : Nat) : Int)) dL_law_185 (addN (a := i) (b := 1) (by omega)) ?_
  refine V.sald (pc := 186) (i + 1) dL_law_186 rfl (by omega) ?_
  refine V.callV (pc := 187) (e1 := eX7_say) (o := 0) (c := 7) 1 [vI (xs (i + 1))] [] mfX7_say slX7_say mlL_18 dL_law_187 (kS_0) (by decide) rfl rfl rfl (Nat.le_of_ble_eq_true rfl) ⟨by decide, by decide, by decide, by decide⟩ ?_
  refine c_X7_say hi hl σ m g im hC (xs (i + 1))  _ (fun hi1 hl1 hfr1 hR1 => ?_)
  have hM1 := RM_fr hfr1 hM
  refine V.qI (pc := 187) rfl rfl ?_
  refine V.aload_n (pc := 190) 2 dL_law_190 rfl ?_
  refine V.aload_n (pc := 191) 0 dL_law_191 rfl ?_
  refine V.iload_n (pc := 192) 3 dL_law_192 rfl ?_
  refine V.iconst (pc := 193) (z := 1) dL_law_193 rfl ⟨by decide, by decide⟩ ?_
  refine V.iadd (pc := 194) ((((i + 1) : Nat) : Int)) dL_law_194 (addN (a := i) (b := 1) (by omega)) ?_
  refine V.sald (pc := 195) (i + 1) dL_law_195 rfl (by omega) ?_
  refine V.callV (pc := 196) (e1 := eX8_say) (o := 77) (c := 8) 1 [vI (xs (i + 1))] [vI (aSay (σ, m, g, im) (xs (i + 1)))] mfX8_say slX8_say mlL_22 dL_law_196 (kS_77) (by decide) rfl rfl rfl (Nat.le_of_ble_eq_true rfl) ⟨by decide, by decide, by decide, by decide⟩ ?_
  refine c_X8_say hi1 hl1 σ m g im hM1 (xs (i + 1))  _ (fun hi2 hl2 hfr2 hR2 => ?_)
  have hC2 := RC_fr hfr2 hR1
  refine V.qI (pc := 196) rfl rfl ?_
  refine V.icmp_eq (pc := 199) 775 dL_law_199 (by decide) (fun h199 => ?_) (fun hc => by exact absurd rfl hc)
  exact ct775  (_) (_) (_) (hC2) (hR2)

set_option maxRecDepth 100000 in
theorem law_c2 {L : Nat} {xs : Nat → Int} (hxs : ∀ j, rI (xs j)) (hL : L ≤ 2560) (i : Nat) (hiL : i + 5 ≤ L) (hi hl : HI) (σ : SG) (m : Nat) (g : Nat → Int) (im : Nat → Option SG) (hC : RC hi hl (σ, m, g, im)) (hM : RMo hi hl (σ, m, g, im)) (ct775 : ∀ (hi' hl' : HI) (G' : GS), RC hi' hl' G' → RMo hi' hl' G' → V eL_law (some (L, xs)) KW 775 [(0, vR SC), (1, vR 0), (2, vR 77), (3, vI ((i : Nat) : Int))] [] hi' hl' 96 78974 QL) : V eL_law (some (L, xs)) KW 204 [(0, vR SC), (1, vR 0), (2, vR 77), (3, vI ((i : Nat) : Int))] [] hi hl 96 78974 QL := by
  refine V.aload_n (pc := 204) 1 dL_law_204 rfl ?_
  refine V.callV (pc := 205) (e1 := eX7_wipe) (o := 0) (c := 7) 0 [] [] mfX7_wipe slX7_wipe mlL_23 dL_law_205 (kS_0) (by decide) rfl rfl rfl (Nat.le_of_ble_eq_true rfl) ⟨by decide, by decide, by decide, by decide⟩ ?_
  refine c_X7_wipe hi hl σ m g im hC   _ (fun hi1 hl1 hfr1 hR1 => ?_)
  have hM1 := RM_fr hfr1 hM
  refine V.qI (pc := 205) rfl rfl ?_
  refine V.aload_n (pc := 208) 2 dL_law_208 rfl ?_
  refine V.callV (pc := 209) (e1 := eX8_wipe) (o := 77) (c := 8) 0 [] [vI (aWipe (σ, m, g, im) )] mfX8_wipe slX8_wipe mlL_27 dL_law_209 (kS_77) (by decide) rfl rfl rfl (Nat.le_of_ble_eq_true rfl) ⟨by decide, by decide, by decide, by decide⟩ ?_
  refine c_X8_wipe hi1 hl1 σ m g im hM1   _ (fun hi2 hl2 hfr2 hR2 => ?_)
  have hC2 := RC_fr hfr2 hR1
  refine V.qI (pc := 209) rfl rfl ?_
  refine V.icmp_eq (pc := 212) 775 dL_law_212 (by decide) (fun h212 => ?_) (fun hc => by exact absurd rfl hc)
  exact ct775  (_) (_) (_) (hC2) (hR2)

set_option maxRecDepth 100000 in
theorem law_c3 {L : Nat} {xs : Nat → Int} (hxs : ∀ j, rI (xs j)) (hL : L ≤ 2560) (i : Nat) (hiL : i + 5 ≤ L) (hi hl : HI) (σ : SG) (m : Nat) (g : Nat → Int) (im : Nat → Option SG) (hC : RC hi hl (σ, m, g, im)) (hM : RMo hi hl (σ, m, g, im)) (ct775 : ∀ (hi' hl' : HI) (G' : GS), RC hi' hl' G' → RMo hi' hl' G' → V eL_law (some (L, xs)) KW 775 [(0, vR SC), (1, vR 0), (2, vR 77), (3, vI ((i : Nat) : Int))] [] hi' hl' 96 78974 QL) : V eL_law (some (L, xs)) KW 217 [(0, vR SC), (1, vR 0), (2, vR 77), (3, vI ((i : Nat) : Int))] [] hi hl 96 78974 QL := by
  refine V.aload_n (pc := 217) 1 dL_law_217 rfl ?_
  refine V.aload_n (pc := 218) 0 dL_law_218 rfl ?_
  refine V.iload_n (pc := 219) 3 dL_law_219 rfl ?_
  refine V.iconst (pc := 220) (z := 1) dL_law_220 rfl ⟨by decide, by decide⟩ ?_
  refine V.iadd (pc := 221) ((((i + 1) : Nat) : Int)) dL_law_221 (addN (a := i) (b := 1) (by omega)) ?_
  refine V.sald (pc := 222) (i + 1) dL_law_222 rfl (by omega) ?_
  refine V.callV (pc := 223) (e1 := eX7_fault) (o := 0) (c := 7) 1 [vI (xs (i + 1))] [] mfX7_fault slX7_fault mlL_28 dL_law_223 (kS_0) (by decide) rfl rfl rfl (Nat.le_of_ble_eq_true rfl) ⟨by decide, by decide, by decide, by decide⟩ ?_
  refine c_X7_fault hi hl σ m g im hC (xs (i + 1))  _ (fun hi1 hl1 hfr1 hR1 => ?_)
  have hM1 := RM_fr hfr1 hM
  refine V.qI (pc := 223) rfl rfl ?_
  refine V.aload_n (pc := 226) 2 dL_law_226 rfl ?_
  refine V.aload_n (pc := 227) 0 dL_law_227 rfl ?_
  refine V.iload_n (pc := 228) 3 dL_law_228 rfl ?_
  refine V.iconst (pc := 229) (z := 1) dL_law_229 rfl ⟨by decide, by decide⟩ ?_
  refine V.iadd (pc := 230) ((((i + 1) : Nat) : Int)) dL_law_230 (addN (a := i) (b := 1) (by omega)) ?_
  refine V.sald (pc := 231) (i + 1) dL_law_231 rfl (by omega) ?_
  refine V.callV (pc := 232) (e1 := eX8_fault) (o := 77) (c := 8) 1 [vI (xs (i + 1))] [vI (aFault (σ, m, g, im) (xs (i + 1)))] mfX8_fault slX8_fault mlL_31 dL_law_232 (kS_77) (by decide) rfl rfl rfl (Nat.le_of_ble_eq_true rfl) ⟨by decide, by decide, by decide, by decide⟩ ?_
  refine c_X8_fault hi1 hl1 σ m g im hM1 (xs (i + 1))  _ (fun hi2 hl2 hfr2 hR2 => ?_)
  have hC2 := RC_fr hfr2 hR1
  refine V.qI (pc := 232) rfl rfl ?_
  refine V.icmp_eq (pc := 235) 775 dL_law_235 (by decide) (fun h235 => ?_) (fun hc => by exact absurd rfl hc)
  exact ct775  (_) (_) (_) (hC2) (hR2)

set_option maxRecDepth 100000 in
theorem law_c4 {L : Nat} {xs : Nat → Int} (hxs : ∀ j, rI (xs j)) (hL : L ≤ 2560) (i : Nat) (hiL : i + 5 ≤ L) (hi hl : HI) (σ : SG) (m : Nat) (g : Nat → Int) (im : Nat → Option SG) (hC : RC hi hl (σ, m, g, im)) (hM : RMo hi hl (σ, m, g, im)) (ct775 : ∀ (hi' hl' : HI) (G' : GS), RC hi' hl' G' → RMo hi' hl' G' → V eL_law (some (L, xs)) KW 775 [(0, vR SC), (1, vR 0), (2, vR 77), (3, vI ((i : Nat) : Int))] [] hi' hl' 96 78974 QL) : V eL_law (some (L, xs)) KW 240 [(0, vR SC), (1, vR 0), (2, vR 77), (3, vI ((i : Nat) : Int))] [] hi hl 96 78974 QL := by
  refine V.aload_n (pc := 240) 1 dL_law_240 rfl ?_
  refine V.callV (pc := 241) (e1 := eX7_days) (o := 0) (c := 7) 0 [] [] mfX7_days slX7_days mlL_32 dL_law_241 (kS_0) (by decide) rfl rfl rfl (Nat.le_of_ble_eq_true rfl) ⟨by decide, by decide, by decide, by decide⟩ ?_
  refine c_X7_days hi hl σ m g im hC   _ (fun hi1 hl1 hfr1 hR1 => ?_)
  have hM1 := RM_fr hfr1 hM
  refine V.qI (pc := 241) rfl rfl ?_
  refine V.aload_n (pc := 244) 2 dL_law_244 rfl ?_
  refine V.callV (pc := 245) (e1 := eX8_days) (o := 77) (c := 8) 0 [] [vI (aDays (σ, m, g, im) )] mfX8_days slX8_days mlL_35 dL_law_245 (kS_77) (by decide) rfl rfl rfl (Nat.le_of_ble_eq_true rfl) ⟨by decide, by decide, by decide, by decide⟩ ?_
  refine c_X8_days hi1 hl1 σ m g im hM1   _ (fun hi2 hl2 hfr2 hR2 => ?_)
  have hC2 := RC_fr hfr2 hR1
  refine V.qI (pc := 245) rfl rfl ?_
  refine V.icmp_eq (pc := 248) 775 dL_law_248 (by decide) (fun h248 => ?_) (fun hc => by exact absurd rfl hc)
  exact ct775  (_) (_) (_) (hC2) (hR2)

set_option maxRecDepth 100000 in
theorem law_c5 {L : Nat} {xs : Nat → Int} (hxs : ∀ j, rI (xs j)) (hL : L ≤ 2560) (i : Nat) (hiL : i + 5 ≤ L) (hi hl : HI) (σ : SG) (m : Nat) (g : Nat → Int) (im : Nat → Option SG) (hC : RC hi hl (σ, m, g, im)) (hM : RMo hi hl (σ, m, g, im)) (ct775 : ∀ (hi' hl' : HI) (G' : GS), RC hi' hl' G' → RMo hi' hl' G' → V eL_law (some (L, xs)) KW 775 [(0, vR SC), (1, vR 0), (2, vR 77), (3, vI ((i : Nat) : Int))] [] hi' hl' 96 78974 QL) : V eL_law (some (L, xs)) KW 253 [(0, vR SC), (1, vR 0), (2, vR 77), (3, vI ((i : Nat) : Int))] [] hi hl 96 78974 QL := by
  refine V.aload_n (pc := 253) 1 dL_law_253 rfl ?_
  refine V.aload_n (pc := 254) 0 dL_law_254 rfl ?_
  refine V.iload_n (pc := 255) 3 dL_law_255 rfl ?_
  refine V.iconst (pc := 256) (z := 1) dL_law_256 rfl ⟨by decide, by decide⟩ ?_
  refine V.iadd (pc := 257) ((((i + 1) : Nat) : Int)) dL_law_257 (addN (a := i) (b := 1) (by omega)) ?_
  refine V.sald (pc := 258) (i + 1) dL_law_258 rfl (by omega) ?_
  refine V.aload_n (pc := 259) 0 dL_law_259 rfl ?_
  refine V.iload_n (pc := 260) 3 dL_law_260 rfl ?_
  refine V.iconst (pc := 261) (z := 2) dL_law_261 rfl ⟨by decide, by decide⟩ ?_
  refine V.iadd (pc := 262) ((((i + 2) : Nat) : Int)) dL_law_262 (addN (a := i) (b := 2) (by omega)) ?_
  refine V.sald (pc := 263) (i + 2) dL_law_263 rfl (by omega) ?_
  refine V.callV (pc := 264) (e1 := eX7_part) (o := 0) (c := 7) 2 [vI (xs (i + 1)), vI (xs (i + 2))] [] mfX7_part slX7_part mlL_36 dL_law_264 (kS_0) (by decide) rfl rfl rfl (Nat.le_of_ble_eq_true rfl) ⟨by decide, by decide, by decide, by decide⟩ ?_
  refine c_X7_part hi hl σ m g im hC (xs (i + 1)) (xs (i + 2))  _ (fun hi1 hl1 hfr1 hR1 => ?_)
  have hM1 := RM_fr hfr1 hM
  refine V.qI (pc := 264) rfl rfl ?_
  refine V.aload_n (pc := 267) 2 dL_law_267 rfl ?_
  refine V.aload_n (pc := 268) 0 dL_law_268 rfl ?_
  refine V.iload_n (pc := 269) 3 dL_law_269 rfl ?_
  refine V.iconst (pc := 270) (z := 1) dL_law_270 rfl ⟨by decide, by decide⟩ ?_
  refine V.iadd (pc := 271) ((((i + 1) : Nat) : Int)) dL_law_271 (addN (a := i) (b := 1) (by omega)) ?_
  refine V.sald (pc := 272) (i + 1) dL_law_272 rfl (by omega) ?_
  refine V.aload_n (pc := 273) 0 dL_law_273 rfl ?_
  refine V.iload_n (pc := 274) 3 dL_law_274 rfl ?_
  refine V.iconst (pc := 275) (z := 2) dL_law_275 rfl ⟨by decide, by decide⟩ ?_
  refine V.iadd (pc := 276) ((((i + 2) : Nat) : Int)) dL_law_276 (addN (a := i) (b := 2) (by omega)) ?_
  refine V.sald (pc := 277) (i + 2) dL_law_277 rfl (by omega) ?_
  refine V.callV (pc := 278) (e1 := eX8_part) (o := 77) (c := 8) 2 [vI (xs (i + 1)), vI (xs (i + 2))] [vI (aPart (σ, m, g, im) (xs (i + 1)) (xs (i + 2)))] mfX8_part slX8_part mlL_39 dL_law_278 (kS_77) (by decide) rfl rfl rfl (Nat.le_of_ble_eq_true rfl) ⟨by decide, by decide, by decide, by decide⟩ ?_
  refine c_X8_part hi1 hl1 σ m g im hM1 (xs (i + 1)) (xs (i + 2))  _ (fun hi2 hl2 hfr2 hR2 => ?_)
  have hC2 := RC_fr hfr2 hR1
  refine V.qI (pc := 278) rfl rfl ?_
  refine V.icmp_eq (pc := 281) 775 dL_law_281 (by decide) (fun h281 => ?_) (fun hc => by exact absurd rfl hc)
  exact ct775  (_) (_) (_) (hC2) (hR2)

set_option maxRecDepth 100000 in
theorem law_c6 {L : Nat} {xs : Nat → Int} (hxs : ∀ j, rI (xs j)) (hL : L ≤ 2560) (i : Nat) (hiL : i + 5 ≤ L) (hi hl : HI) (σ : SG) (m : Nat) (g : Nat → Int) (im : Nat → Option SG) (hC : RC hi hl (σ, m, g, im)) (hM : RMo hi hl (σ, m, g, im)) (ct775 : ∀ (hi' hl' : HI) (G' : GS), RC hi' hl' G' → RMo hi' hl' G' → V eL_law (some (L, xs)) KW 775 [(0, vR SC), (1, vR 0), (2, vR 77), (3, vI ((i : Nat) : Int))] [] hi' hl' 96 78974 QL) : V eL_law (some (L, xs)) KW 286 [(0, vR SC), (1, vR 0), (2, vR 77), (3, vI ((i : Nat) : Int))] [] hi hl 96 78974 QL := by
  refine V.aload_n (pc := 286) 1 dL_law_286 rfl ?_
  refine V.aload_n (pc := 287) 0 dL_law_287 rfl ?_
  refine V.iload_n (pc := 288) 3 dL_law_288 rfl ?_
  refine V.iconst (pc := 289) (z := 1) dL_law_289 rfl ⟨by decide, by decide⟩ ?_
  refine V.iadd (pc := 290) ((((i + 1) : Nat) : Int)) dL_law_290 (addN (a := i) (b := 1) (by omega)) ?_
  refine V.sald (pc := 291) (i + 1) dL_law_291 rfl (by omega) ?_
  refine V.aload_n (pc := 292) 0 dL_law_292 rfl ?_
  refine V.iload_n (pc := 293) 3 dL_law_293 rfl ?_
  refine V.iconst (pc := 294) (z := 2) dL_law_294 rfl ⟨by decide, by decide⟩ ?_
  refine V.iadd (pc := 295) ((((i + 2) : Nat) : Int)) dL_law_295 (addN (a := i) (b := 2) (by omega)) ?_
  refine V.sald (pc := 296) (i + 2) dL_law_296 rfl (by omega) ?_
  refine V.callV (pc := 297) (e1 := eX7_slips) (o := 0) (c := 7) 2 [vI (xs (i + 1)), vI (xs (i + 2))] [] mfX7_slips slX7_slips mlL_40 dL_law_297 (kS_0) (by decide) rfl rfl rfl (Nat.le_of_ble_eq_true rfl) ⟨by decide, by decide, by decide, by decide⟩ ?_
  refine c_X7_slips hi hl σ m g im hC (xs (i + 1)) (xs (i + 2))  _ (fun hi1 hl1 hfr1 hR1 => ?_)
  have hM1 := RM_fr hfr1 hM
  refine V.qI (pc := 297) rfl rfl ?_
  refine V.aload_n (pc := 300) 2 dL_law_300 rfl ?_
  refine V.aload_n (pc := 301) 0 dL_law_301 rfl ?_
  refine V.iload_n (pc := 302) 3 dL_law_302 rfl ?_
  refine V.iconst (pc := 303) (z := 1) dL_law_303 rfl ⟨by decide, by decide⟩ ?_
  refine V.iadd (pc := 304) ((((i + 1) : Nat) : Int)) dL_law_304 (addN (a := i) (b := 1) (by omega)) ?_
  refine V.sald (pc := 305) (i + 1) dL_law_305 rfl (by omega) ?_
  refine V.aload_n (pc := 306) 0 dL_law_306 rfl ?_
  refine V.iload_n (pc := 307) 3 dL_law_307 rfl ?_
  refine V.iconst (pc := 308) (z := 2) dL_law_308 rfl ⟨by decide, by decide⟩ ?_
  refine V.iadd (pc := 309) ((((i + 2) : Nat) : Int)) dL_law_309 (addN (a := i) (b := 2) (by omega)) ?_
  refine V.sald (pc := 310) (i + 2) dL_law_310 rfl (by omega) ?_
  refine V.callV (pc := 311) (e1 := eX8_slips) (o := 77) (c := 8) 2 [vI (xs (i + 1)), vI (xs (i + 2))] [vI (aSlips (σ, m, g, im) (xs (i + 1)) (xs (i + 2)))] mfX8_slips slX8_slips mlL_43 dL_law_311 (kS_77) (by decide) rfl rfl rfl (Nat.le_of_ble_eq_true rfl) ⟨by decide, by decide, by decide, by decide⟩ ?_
  refine c_X8_slips hi1 hl1 σ m g im hM1 (xs (i + 1)) (xs (i + 2))  _ (fun hi2 hl2 hfr2 hR2 => ?_)
  have hC2 := RC_fr hfr2 hR1
  refine V.qI (pc := 311) rfl rfl ?_
  refine V.icmp_eq (pc := 314) 775 dL_law_314 (by decide) (fun h314 => ?_) (fun hc => by exact absurd rfl hc)
  exact ct775  (_) (_) (_) (hC2) (hR2)

set_option maxRecDepth 100000 in
theorem law_c7 {L : Nat} {xs : Nat → Int} (hxs : ∀ j, rI (xs j)) (hL : L ≤ 2560) (i : Nat) (hiL : i + 5 ≤ L) (hi hl : HI) (σ : SG) (m : Nat) (g : Nat → Int) (im : Nat → Option SG) (hC : RC hi hl (σ, m, g, im)) (hM : RMo hi hl (σ, m, g, im)) (ct775 : ∀ (hi' hl' : HI) (G' : GS), RC hi' hl' G' → RMo hi' hl' G' → V eL_law (some (L, xs)) KW 775 [(0, vR SC), (1, vR 0), (2, vR 77), (3, vI ((i : Nat) : Int))] [] hi' hl' 96 78974 QL) : V eL_law (some (L, xs)) KW 319 [(0, vR SC), (1, vR 0), (2, vR 77), (3, vI ((i : Nat) : Int))] [] hi hl 96 78974 QL := by
  refine V.aload_n (pc := 319) 1 dL_law_319 rfl ?_
  refine V.callV (pc := 320) (e1 := eX7_bargain) (o := 0) (c := 7) 0 [] [] mfX7_bargain slX7_bargain mlL_44 dL_law_320 (kS_0) (by decide) rfl rfl rfl (Nat.le_of_ble_eq_true rfl) ⟨by decide, by decide, by decide, by decide⟩ ?_
  refine c_X7_bargain hi hl σ m g im hC   _ (fun hi1 hl1 hfr1 hR1 => ?_)
  have hM1 := RM_fr hfr1 hM
  refine V.qI (pc := 320) rfl rfl ?_
  refine V.aload_n (pc := 323) 2 dL_law_323 rfl ?_
  refine V.callV (pc := 324) (e1 := eX8_bargain) (o := 77) (c := 8) 0 [] [vI (aBarg (σ, m, g, im) )] mfX8_bargain slX8_bargain mlL_47 dL_law_324 (kS_77) (by decide) rfl rfl rfl (Nat.le_of_ble_eq_true rfl) ⟨by decide, by decide, by decide, by decide⟩ ?_
  refine c_X8_bargain hi1 hl1 σ m g im hM1   _ (fun hi2 hl2 hfr2 hR2 => ?_)
  have hC2 := RC_fr hfr2 hR1
  refine V.qI (pc := 324) rfl rfl ?_
  refine V.icmp_eq (pc := 327) 775 dL_law_327 (by decide) (fun h327 => ?_) (fun hc => by exact absurd rfl hc)
  exact ct775  (_) (_) (_) (hC2) (hR2)

set_option maxRecDepth 100000 in
theorem law_c8 {L : Nat} {xs : Nat → Int} (hxs : ∀ j, rI (xs j)) (hL : L ≤ 2560) (i : Nat) (hiL : i + 5 ≤ L) (hi hl : HI) (σ : SG) (m : Nat) (g : Nat → Int) (im : Nat → Option SG) (hC : RC hi hl (σ, m, g, im)) (hM : RMo hi hl (σ, m, g, im)) (ct775 : ∀ (hi' hl' : HI) (G' : GS), RC hi' hl' G' → RMo hi' hl' G' → V eL_law (some (L, xs)) KW 775 [(0, vR SC), (1, vR 0), (2, vR 77), (3, vI ((i : Nat) : Int))] [] hi' hl' 96 78974 QL) : V eL_law (some (L, xs)) KW 332 [(0, vR SC), (1, vR 0), (2, vR 77), (3, vI ((i : Nat) : Int))] [] hi hl 96 78974 QL := by
  refine V.aload_n (pc := 332) 1 dL_law_332 rfl ?_
  refine V.aload_n (pc := 333) 0 dL_law_333 rfl ?_
  refine V.iload_n (pc := 334) 3 dL_law_334 rfl ?_
  refine V.iconst (pc := 335) (z := 1) dL_law_335 rfl ⟨by decide, by decide⟩ ?_
  refine V.iadd (pc := 336) ((((i + 1) : Nat) : Int)) dL_law_336 (addN (a := i) (b := 1) (by omega)) ?_
  refine V.sald (pc := 337) (i + 1) dL_law_337 rfl (by omega) ?_
  refine V.aload_n (pc := 338) 0 dL_law_338 rfl ?_
  refine V.iload_n (pc := 339) 3 dL_law_339 rfl ?_
  refine V.iconst (pc := 340) (z := 2) dL_law_340 rfl ⟨by decide, by decide⟩ ?_
  refine V.iadd (pc := 341) ((((i + 2) : Nat) : Int)) dL_law_341 (addN (a := i) (b := 2) (by omega)) ?_
  refine V.sald (pc := 342) (i + 2) dL_law_342 rfl (by omega) ?_
  refine V.callV (pc := 343) (e1 := eX7_says) (o := 0) (c := 7) 2 [vI (xs (i + 1)), vI (xs (i + 2))] [] mfX7_says slX7_says mlL_48 dL_law_343 (kS_0) (by decide) rfl rfl rfl (Nat.le_of_ble_eq_true rfl) ⟨by decide, by decide, by decide, by decide⟩ ?_
  refine c_X7_says hi hl σ m g im hC (xs (i + 1)) (xs (i + 2))  _ (fun hi1 hl1 hfr1 hR1 => ?_)
  have hM1 := RM_fr hfr1 hM
  refine V.qI (pc := 343) rfl rfl ?_
  refine V.aload_n (pc := 346) 2 dL_law_346 rfl ?_
  refine V.aload_n (pc := 347) 0 dL_law_347 rfl ?_
  refine V.iload_n (pc := 348) 3 dL_law_348 rfl ?_
  refine V.iconst (pc := 349) (z := 1) dL_law_349 rfl ⟨by decide, by decide⟩ ?_
  refine V.iadd (pc := 350) ((((i + 1) : Nat) : Int)) dL_law_350 (addN (a := i) (b := 1) (by omega)) ?_
  refine V.sald (pc := 351) (i + 1) dL_law_351 rfl (by omega) ?_
  refine V.aload_n (pc := 352) 0 dL_law_352 rfl ?_
  refine V.iload_n (pc := 353) 3 dL_law_353 rfl ?_
  refine V.iconst (pc := 354) (z := 2) dL_law_354 rfl ⟨by decide, by decide⟩ ?_
  refine V.iadd (pc := 355) ((((i + 2) : Nat) : Int)) dL_law_355 (addN (a := i) (b := 2) (by omega)) ?_
  refine V.sald (pc := 356) (i + 2) dL_law_356 rfl (by omega) ?_
  refine V.callV (pc := 357) (e1 := eX8_says) (o := 77) (c := 8) 2 [vI (xs (i + 1)), vI (xs (i + 2))] [vI (aSays (σ, m, g, im) (xs (i + 1)) (xs (i + 2)))] mfX8_says slX8_says mlL_51 dL_law_357 (kS_77) (by decide) rfl rfl rfl (Nat.le_of_ble_eq_true rfl) ⟨by decide, by decide, by decide, by decide⟩ ?_
  refine c_X8_says hi1 hl1 σ m g im hM1 (xs (i + 1)) (xs (i + 2)) (hxs _) _ (fun hi2 hl2 hfr2 hR2 => ?_)
  have hC2 := RC_fr hfr2 hR1
  refine V.qI (pc := 357) rfl rfl ?_
  refine V.icmp_eq (pc := 360) 775 dL_law_360 (by decide) (fun h360 => ?_) (fun hc => by exact absurd rfl hc)
  exact ct775  (_) (_) (_) (hC2) (hR2)

set_option maxRecDepth 100000 in
theorem law_c9 {L : Nat} {xs : Nat → Int} (hxs : ∀ j, rI (xs j)) (hL : L ≤ 2560) (i : Nat) (hiL : i + 5 ≤ L) (hi hl : HI) (σ : SG) (m : Nat) (g : Nat → Int) (im : Nat → Option SG) (hC : RC hi hl (σ, m, g, im)) (hM : RMo hi hl (σ, m, g, im)) (ct775 : ∀ (hi' hl' : HI) (G' : GS), RC hi' hl' G' → RMo hi' hl' G' → V eL_law (some (L, xs)) KW 775 [(0, vR SC), (1, vR 0), (2, vR 77), (3, vI ((i : Nat) : Int))] [] hi' hl' 96 78974 QL) : V eL_law (some (L, xs)) KW 365 [(0, vR SC), (1, vR 0), (2, vR 77), (3, vI ((i : Nat) : Int))] [] hi hl 96 78974 QL := by
  refine V.aload_n (pc := 365) 1 dL_law_365 rfl ?_
  refine V.aload_n (pc := 366) 0 dL_law_366 rfl ?_
  refine V.iload_n (pc := 367) 3 dL_law_367 rfl ?_
  refine V.iconst (pc := 368) (z := 1) dL_law_368 rfl ⟨by decide, by decide⟩ ?_
  refine V.iadd (pc := 369) ((((i + 1) : Nat) : Int)) dL_law_369 (addN (a := i) (b := 1) (by omega)) ?_
  refine V.sald (pc := 370) (i + 1) dL_law_370 rfl (by omega) ?_
  refine V.callV (pc := 371) (e1 := eX7_testify) (o := 0) (c := 7) 1 [vI (xs (i + 1))] [] mfX7_testify slX7_testify mlL_52 dL_law_371 (kS_0) (by decide) rfl rfl rfl (Nat.le_of_ble_eq_true rfl) ⟨by decide, by decide, by decide, by decide⟩ ?_
  refine c_X7_testify hi hl σ m g im hC (xs (i + 1))  _ (fun hi1 hl1 hfr1 hR1 => ?_)
  have hM1 := RM_fr hfr1 hM
  refine V.qI (pc := 371) rfl rfl ?_
  refine V.aload_n (pc := 374) 2 dL_law_374 rfl ?_
  refine V.aload_n (pc := 375) 0 dL_law_375 rfl ?_
  refine V.iload_n (pc := 376) 3 dL_law_376 rfl ?_
  refine V.iconst (pc := 377) (z := 1) dL_law_377 rfl ⟨by decide, by decide⟩ ?_
  refine V.iadd (pc := 378) ((((i + 1) : Nat) : Int)) dL_law_378 (addN (a := i) (b := 1) (by omega)) ?_
  refine V.sald (pc := 379) (i + 1) dL_law_379 rfl (by omega) ?_
  refine V.callV (pc := 380) (e1 := eX8_testify) (o := 77) (c := 8) 1 [vI (xs (i + 1))] [vI (aTest (σ, m, g, im) (xs (i + 1)))] mfX8_testify slX8_testify mlL_55 dL_law_380 (kS_77) (by decide) rfl rfl rfl (Nat.le_of_ble_eq_true rfl) ⟨by decide, by decide, by decide, by decide⟩ ?_
  refine c_X8_testify hi1 hl1 σ m g im hM1 (xs (i + 1))  _ (fun hi2 hl2 hfr2 hR2 => ?_)
  have hC2 := RC_fr hfr2 hR1
  refine V.qI (pc := 380) rfl rfl ?_
  refine V.icmp_eq (pc := 383) 775 dL_law_383 (by decide) (fun h383 => ?_) (fun hc => by exact absurd rfl hc)
  exact ct775  (_) (_) (_) (hC2) (hR2)

set_option maxRecDepth 100000 in
theorem law_c10 {L : Nat} {xs : Nat → Int} (hxs : ∀ j, rI (xs j)) (hL : L ≤ 2560) (i : Nat) (hiL : i + 5 ≤ L) (hi hl : HI) (σ : SG) (m : Nat) (g : Nat → Int) (im : Nat → Option SG) (hC : RC hi hl (σ, m, g, im)) (hM : RMo hi hl (σ, m, g, im)) (ct775 : ∀ (hi' hl' : HI) (G' : GS), RC hi' hl' G' → RMo hi' hl' G' → V eL_law (some (L, xs)) KW 775 [(0, vR SC), (1, vR 0), (2, vR 77), (3, vI ((i : Nat) : Int))] [] hi' hl' 96 78974 QL) : V eL_law (some (L, xs)) KW 388 [(0, vR SC), (1, vR 0), (2, vR 77), (3, vI ((i : Nat) : Int))] [] hi hl 96 78974 QL := by
  refine V.aload_n (pc := 388) 1 dL_law_388 rfl ?_
  refine V.aload_n (pc := 389) 0 dL_law_389 rfl ?_
  refine V.iload_n (pc := 390) 3 dL_law_390 rfl ?_
  refine V.iconst (pc := 391) (z := 1) dL_law_391 rfl ⟨by decide, by decide⟩ ?_
  refine V.iadd (pc := 392) ((((i + 1) : Nat) : Int)) dL_law_392 (addN (a := i) (b := 1) (by omega)) ?_
  refine V.sald (pc := 393) (i + 1) dL_law_393 rfl (by omega) ?_
  refine V.callV (pc := 394) (e1 := eX7_unsay) (o := 0) (c := 7) 1 [vI (xs (i + 1))] [] mfX7_unsay slX7_unsay mlL_56 dL_law_394 (kS_0) (by decide) rfl rfl rfl (Nat.le_of_ble_eq_true rfl) ⟨by decide, by decide, by decide, by decide⟩ ?_
  refine c_X7_unsay hi hl σ m g im hC (xs (i + 1))  _ (fun hi1 hl1 hfr1 hR1 => ?_)
  have hM1 := RM_fr hfr1 hM
  refine V.qI (pc := 394) rfl rfl ?_
  refine V.aload_n (pc := 397) 2 dL_law_397 rfl ?_
  refine V.aload_n (pc := 398) 0 dL_law_398 rfl ?_
  refine V.iload_n (pc := 399) 3 dL_law_399 rfl ?_
  refine V.iconst (pc := 400) (z := 1) dL_law_400 rfl ⟨by decide, by decide⟩ ?_
  refine V.iadd (pc := 401) ((((i + 1) : Nat) : Int)) dL_law_401 (addN (a := i) (b := 1) (by omega)) ?_
  refine V.sald (pc := 402) (i + 1) dL_law_402 rfl (by omega) ?_
  refine V.callV (pc := 403) (e1 := eX8_unsay) (o := 77) (c := 8) 1 [vI (xs (i + 1))] [vI (aUns (σ, m, g, im) (xs (i + 1)))] mfX8_unsay slX8_unsay mlL_59 dL_law_403 (kS_77) (by decide) rfl rfl rfl (Nat.le_of_ble_eq_true rfl) ⟨by decide, by decide, by decide, by decide⟩ ?_
  refine c_X8_unsay hi1 hl1 σ m g im hM1 (xs (i + 1))  _ (fun hi2 hl2 hfr2 hR2 => ?_)
  have hC2 := RC_fr hfr2 hR1
  refine V.qI (pc := 403) rfl rfl ?_
  refine V.icmp_eq (pc := 406) 775 dL_law_406 (by decide) (fun h406 => ?_) (fun hc => by exact absurd rfl hc)
  exact ct775  (_) (_) (_) (hC2) (hR2)

set_option maxRecDepth 100000 in
theorem law_c11 {L : Nat} {xs : Nat → Int} (hxs : ∀ j, rI (xs j)) (hL : L ≤ 2560) (i : Nat) (hiL : i + 5 ≤ L) (hi hl : HI) (σ : SG) (m : Nat) (g : Nat → Int) (im : Nat → Option SG) (hC : RC hi hl (σ, m, g, im)) (hM : RMo hi hl (σ, m, g, im)) (ct775 : ∀ (hi' hl' : HI) (G' : GS), RC hi' hl' G' → RMo hi' hl' G' → V eL_law (some (L, xs)) KW 775 [(0, vR SC), (1, vR 0), (2, vR 77), (3, vI ((i : Nat) : Int))] [] hi' hl' 96 78974 QL) : V eL_law (some (L, xs)) KW 411 [(0, vR SC), (1, vR 0), (2, vR 77), (3, vI ((i : Nat) : Int))] [] hi hl 96 78974 QL := by
  refine V.aload_n (pc := 411) 1 dL_law_411 rfl ?_
  refine V.callV (pc := 412) (e1 := eX7_cost) (o := 0) (c := 7) 0 [] [] mfX7_cost slX7_cost mlL_60 dL_law_412 (kS_0) (by decide) rfl rfl rfl (Nat.le_of_ble_eq_true rfl) ⟨by decide, by decide, by decide, by decide⟩ ?_
  refine c_X7_cost hi hl σ m g im hC   _ (fun hi1 hl1 hfr1 hR1 => ?_)
  have hM1 := RM_fr hfr1 hM
  refine V.qI (pc := 412) rfl rfl ?_
  refine V.aload_n (pc := 415) 2 dL_law_415 rfl ?_
  refine V.callV (pc := 416) (e1 := eX8_cost) (o := 77) (c := 8) 0 [] [vI (aCost (σ, m, g, im) )] mfX8_cost slX8_cost mlL_63 dL_law_416 (kS_77) (by decide) rfl rfl rfl (Nat.le_of_ble_eq_true rfl) ⟨by decide, by decide, by decide, by decide⟩ ?_
  refine c_X8_cost hi1 hl1 σ m g im hM1   _ (fun hi2 hl2 hfr2 hR2 => ?_)
  have hC2 := RC_fr hfr2 hR1
  refine V.qI (pc := 416) rfl rfl ?_
  refine V.icmp_eq (pc := 419) 775 dL_law_419 (by decide) (fun h419 => ?_) (fun hc => by exact absurd rfl hc)
  exact ct775  (_) (_) (_) (hC2) (hR2)

set_option maxRecDepth 100000 in
theorem law_c12 {L : Nat} {xs : Nat → Int} (hxs : ∀ j, rI (xs j)) (hL : L ≤ 2560) (i : Nat) (hiL : i + 5 ≤ L) (hi hl : HI) (σ : SG) (m : Nat) (g : Nat → Int) (im : Nat → Option SG) (hC : RC hi hl (σ, m, g, im)) (hM : RMo hi hl (σ, m, g, im)) (ct775 : ∀ (hi' hl' : HI) (G' : GS), RC hi' hl' G' → RMo hi' hl' G' → V eL_law (some (L, xs)) KW 775 [(0, vR SC), (1, vR 0), (2, vR 77), (3, vI ((i : Nat) : Int))] [] hi' hl' 96 78974 QL) : V eL_law (some (L, xs)) KW 424 [(0, vR SC), (1, vR 0), (2, vR 77), (3, vI ((i : Nat) : Int))] [] hi hl 96 78974 QL := by
  refine V.aload_n (pc := 424) 1 dL_law_424 rfl ?_
  refine V.aload_n (pc := 425) 0 dL_law_425 rfl ?_
  refine V.iload_n (pc := 426) 3 dL_law_426 rfl ?_
  refine V.iconst (pc := 427) (z := 1) dL_law_427 rfl ⟨by decide, by decide⟩ ?_
  refine V.iadd (pc := 428) ((((i + 1) : Nat) : Int)) dL_law_428 (addN (a := i) (b := 1) (by omega)) ?_
  refine V.sald (pc := 429) (i + 1) dL_law_429 rfl (by omega) ?_
  refine V.callV (pc := 430) (e1 := eX7_likely) (o := 0) (c := 7) 1 [vI (xs (i + 1))] [] mfX7_likely slX7_likely mlL_64 dL_law_430 (kS_0) (by decide) rfl rfl rfl (Nat.le_of_ble_eq_true rfl) ⟨by decide, by decide, by decide, by decide⟩ ?_
  refine c_X7_likely hi hl σ m g im hC (xs (i + 1))  _ (fun hi1 hl1 hfr1 hR1 => ?_)
  have hM1 := RM_fr hfr1 hM
  refine V.qI (pc := 430) rfl rfl ?_
  refine V.aload_n (pc := 433) 2 dL_law_433 rfl ?_
  refine V.aload_n (pc := 434) 0 dL_law_434 rfl ?_
  refine V.iload_n (pc := 435) 3 dL_law_435 rfl ?_
  refine V.iconst (pc := 436) (z := 1) dL_law_436 rfl ⟨by decide, by decide⟩ ?_
  refine V.iadd (pc := 437) ((((i + 1) : Nat) : Int)) dL_law_437 (addN (a := i) (b := 1) (by omega)) ?_
  refine V.sald (pc := 438) (i + 1) dL_law_438 rfl (by omega) ?_
  refine V.callV (pc := 439) (e1 := eX8_likely) (o := 77) (c := 8) 1 [vI (xs (i + 1))] [vI (aLik (σ, m, g, im) (xs (i + 1)))] mfX8_likely slX8_likely mlL_67 dL_law_439 (kS_77) (by decide) rfl rfl rfl (Nat.le_of_ble_eq_true rfl) ⟨by decide, by decide, by decide, by decide⟩ ?_
  refine c_X8_likely hi1 hl1 σ m g im hM1 (xs (i + 1))  _ (fun hi2 hl2 hfr2 hR2 => ?_)
  have hC2 := RC_fr hfr2 hR1
  refine V.qI (pc := 439) rfl rfl ?_
  refine V.icmp_eq (pc := 442) 775 dL_law_442 (by decide) (fun h442 => ?_) (fun hc => by exact absurd rfl hc)
  exact ct775  (_) (_) (_) (hC2) (hR2)

set_option maxRecDepth 100000 in
theorem law_c13 {L : Nat} {xs : Nat → Int} (hxs : ∀ j, rI (xs j)) (hL : L ≤ 2560) (i : Nat) (hiL : i + 5 ≤ L) (hi hl : HI) (σ : SG) (m : Nat) (g : Nat → Int) (im : Nat → Option SG) (hC : RC hi hl (σ, m, g, im)) (hM : RMo hi hl (σ, m, g, im)) (ct775 : ∀ (hi' hl' : HI) (G' : GS), RC hi' hl' G' → RMo hi' hl' G' → V eL_law (some (L, xs)) KW 775 [(0, vR SC), (1, vR 0), (2, vR 77), (3, vI ((i : Nat) : Int))] [] hi' hl' 96 78974 QL) : V eL_law (some (L, xs)) KW 447 [(0, vR SC), (1, vR 0), (2, vR 77), (3, vI ((i : Nat) : Int))] [] hi hl 96 78974 QL := by
  refine V.aload_n (pc := 447) 1 dL_law_447 rfl ?_
  refine V.callV (pc := 448) (e1 := eX7_ways) (o := 0) (c := 7) 0 [] [] mfX7_ways slX7_ways mlL_68 dL_law_448 (kS_0) (by decide) rfl rfl rfl (Nat.le_of_ble_eq_true rfl) ⟨by decide, by decide, by decide, by decide⟩ ?_
  refine c_X7_ways hi hl σ m g im hC   _ (fun hi1 hl1 hfr1 hR1 => ?_)
  have hM1 := RM_fr hfr1 hM
  refine V.qJ (pc := 448) rfl rfl ?_
  refine V.aload_n (pc := 451) 2 dL_law_451 rfl ?_
  refine V.callV (pc := 452) (e1 := eX8_ways) (o := 77) (c := 8) 0 [] [vL (aWays (σ, m, g, im) )] mfX8_ways slX8_ways mlL_72 dL_law_452 (kS_77) (by decide) rfl rfl rfl (Nat.le_of_ble_eq_true rfl) ⟨by decide, by decide, by decide, by decide⟩ ?_
  refine c_X8_ways hi1 hl1 σ m g im hM1   _ (fun hi2 hl2 hfr2 hR2 => ?_)
  have hC2 := RC_fr hfr2 hR1
  refine V.qJ (pc := 452) rfl rfl ?_
  refine V.lcmp (pc := 455) dL_law_455 ?_
  refine V.if_eq (pc := 456) 775 dL_law_456 (by decide) (fun h456 => ?_) (fun hc => by exact absurd (lcmp_eq.mpr rfl) hc)
  exact ct775  (_) (_) (_) (hC2) (hR2)

set_option maxRecDepth 100000 in
theorem law_c14 {L : Nat} {xs : Nat → Int} (hxs : ∀ j, rI (xs j)) (hL : L ≤ 2560) (i : Nat) (hiL : i + 5 ≤ L) (hi hl : HI) (σ : SG) (m : Nat) (g : Nat → Int) (im : Nat → Option SG) (hC : RC hi hl (σ, m, g, im)) (hM : RMo hi hl (σ, m, g, im)) (ct775 : ∀ (hi' hl' : HI) (G' : GS), RC hi' hl' G' → RMo hi' hl' G' → V eL_law (some (L, xs)) KW 775 [(0, vR SC), (1, vR 0), (2, vR 77), (3, vI ((i : Nat) : Int))] [] hi' hl' 96 78974 QL) : V eL_law (some (L, xs)) KW 461 [(0, vR SC), (1, vR 0), (2, vR 77), (3, vI ((i : Nat) : Int))] [] hi hl 96 78974 QL := by
  refine V.aload_n (pc := 461) 1 dL_law_461 rfl ?_
  refine V.aload_n (pc := 462) 0 dL_law_462 rfl ?_
  refine V.iload_n (pc := 463) 3 dL_law_463 rfl ?_
  refine V.iconst (pc := 464) (z := 1) dL_law_464 rfl ⟨by decide, by decide⟩ ?_
  refine V.iadd (pc := 465) ((((i + 1) : Nat) : Int)) dL_law_465 (addN (a := i) (b := 1) (by omega)) ?_
  refine V.sald (pc := 466) (i + 1) dL_law_466 rfl (by omega) ?_
  refine V.callV (pc := 467) (e1 := eX7_odds) (o := 0) (c := 7) 1 [vI (xs (i + 1))] [] mfX7_odds slX7_odds mlL_73 dL_law_467 (kS_0) (by decide) rfl rfl rfl (Nat.le_of_ble_eq_true rfl) ⟨by decide, by decide, by decide, by decide⟩ ?_
  refine c_X7_odds hi hl σ m g im hC (xs (i + 1))  _ (fun hi1 hl1 hfr1 hR1 => ?_)
  have hM1 := RM_fr hfr1 hM
  refine V.qJ (pc := 467) rfl rfl ?_
  refine V.aload_n (pc := 470) 2 dL_law_470 rfl ?_
  refine V.aload_n (pc := 471) 0 dL_law_471 rfl ?_
  refine V.iload_n (pc := 472) 3 dL_law_472 rfl ?_
  refine V.iconst (pc := 473) (z := 1) dL_law_473 rfl ⟨by decide, by decide⟩ ?_
  refine V.iadd (pc := 474) ((((i + 1) : Nat) : Int)) dL_law_474 (addN (a := i) (b := 1) (by omega)) ?_
  refine V.sald (pc := 475) (i + 1) dL_law_475 rfl (by omega) ?_
  refine V.callV (pc := 476) (e1 := eX8_odds) (o := 77) (c := 8) 1 [vI (xs (i + 1))] [vL (aOdds (σ, m, g, im) (xs (i + 1)))] mfX8_odds slX8_odds mlL_77 dL_law_476 (kS_77) (by decide) rfl rfl rfl (Nat.le_of_ble_eq_true rfl) ⟨by decide, by decide, by decide, by decide⟩ ?_
  refine c_X8_odds hi1 hl1 σ m g im hM1 (xs (i + 1))  _ (fun hi2 hl2 hfr2 hR2 => ?_)
  have hC2 := RC_fr hfr2 hR1
  refine V.qJ (pc := 476) rfl rfl ?_
  refine V.lcmp (pc := 479) dL_law_479 ?_
  refine V.if_eq (pc := 480) 775 dL_law_480 (by decide) (fun h480 => ?_) (fun hc => by exact absurd (lcmp_eq.mpr rfl) hc)
  exact ct775  (_) (_) (_) (hC2) (hR2)

set_option maxRecDepth 100000 in
theorem law_c15 {L : Nat} {xs : Nat → Int} (hxs : ∀ j, rI (xs j)) (hL : L ≤ 2560) (i : Nat) (hiL : i + 5 ≤ L) (hi hl : HI) (σ : SG) (m : Nat) (g : Nat → Int) (im : Nat → Option SG) (hC : RC hi hl (σ, m, g, im)) (hM : RMo hi hl (σ, m, g, im)) (ct775 : ∀ (hi' hl' : HI) (G' : GS), RC hi' hl' G' → RMo hi' hl' G' → V eL_law (some (L, xs)) KW 775 [(0, vR SC), (1, vR 0), (2, vR 77), (3, vI ((i : Nat) : Int))] [] hi' hl' 96 78974 QL) : V eL_law (some (L, xs)) KW 485 [(0, vR SC), (1, vR 0), (2, vR 77), (3, vI ((i : Nat) : Int))] [] hi hl 96 78974 QL := by
  refine V.aload_n (pc := 485) 1 dL_law_485 rfl ?_
  refine V.aload_n (pc := 486) 0 dL_law_486 rfl ?_
  refine V.iload_n (pc := 487) 3 dL_law_487 rfl ?_
  refine V.iconst (pc := 488) (z := 1) dL_law_488 rfl ⟨by decide, by decide⟩ ?_
  refine V.iadd (pc := 489) ((((i + 1) : Nat) : Int)) dL_law_489 (addN (a := i) (b := 1) (by omega)) ?_
  refine V.sald (pc := 490) (i + 1) dL_law_490 rfl (by omega) ?_
  refine V.callV (pc := 491) (e1 := eX7_canBe) (o := 0) (c := 7) 1 [vI (xs (i + 1))] [] mfX7_canBe slX7_canBe mlL_78 dL_law_491 (kS_0) (by decide) rfl rfl rfl (Nat.le_of_ble_eq_true rfl) ⟨by decide, by decide, by decide, by decide⟩ ?_
  refine c_X7_canBe hi hl σ m g im hC (xs (i + 1))  _ (fun hi1 hl1 hfr1 hR1 => ?_)
  have hM1 := RM_fr hfr1 hM
  refine V.qI (pc := 491) rfl rfl ?_
  refine V.aload_n (pc := 494) 2 dL_law_494 rfl ?_
  refine V.aload_n (pc := 495) 0 dL_law_495 rfl ?_
  refine V.iload_n (pc := 496) 3 dL_law_496 rfl ?_
  refine V.iconst (pc := 497) (z := 1) dL_law_497 rfl ⟨by decide, by decide⟩ ?_
  refine V.iadd (pc := 498) ((((i + 1) : Nat) : Int)) dL_law_498 (addN (a := i) (b := 1) (by omega)) ?_
  refine V.sald (pc := 499) (i + 1) dL_law_499 rfl (by omega) ?_
  refine V.callV (pc := 500) (e1 := eX8_canBe) (o := 77) (c := 8) 1 [vI (xs (i + 1))] [vI (aCan (σ, m, g, im) (xs (i + 1)))] mfX8_canBe slX8_canBe mlL_81 dL_law_500 (kS_77) (by decide) rfl rfl rfl (Nat.le_of_ble_eq_true rfl) ⟨by decide, by decide, by decide, by decide⟩ ?_
  refine c_X8_canBe hi1 hl1 σ m g im hM1 (xs (i + 1))  _ (fun hi2 hl2 hfr2 hR2 => ?_)
  have hC2 := RC_fr hfr2 hR1
  refine V.qI (pc := 500) rfl rfl ?_
  refine V.icmp_eq (pc := 503) 775 dL_law_503 (by decide) (fun h503 => ?_) (fun hc => by exact absurd rfl hc)
  exact ct775  (_) (_) (_) (hC2) (hR2)

set_option maxRecDepth 100000 in
theorem law_c16 {L : Nat} {xs : Nat → Int} (hxs : ∀ j, rI (xs j)) (hL : L ≤ 2560) (i : Nat) (hiL : i + 5 ≤ L) (hi hl : HI) (σ : SG) (m : Nat) (g : Nat → Int) (im : Nat → Option SG) (hC : RC hi hl (σ, m, g, im)) (hM : RMo hi hl (σ, m, g, im)) (ct775 : ∀ (hi' hl' : HI) (G' : GS), RC hi' hl' G' → RMo hi' hl' G' → V eL_law (some (L, xs)) KW 775 [(0, vR SC), (1, vR 0), (2, vR 77), (3, vI ((i : Nat) : Int))] [] hi' hl' 96 78974 QL) : V eL_law (some (L, xs)) KW 508 [(0, vR SC), (1, vR 0), (2, vR 77), (3, vI ((i : Nat) : Int))] [] hi hl 96 78974 QL := by
  refine V.aload_n (pc := 508) 1 dL_law_508 rfl ?_
  refine V.aload_n (pc := 509) 0 dL_law_509 rfl ?_
  refine V.iload_n (pc := 510) 3 dL_law_510 rfl ?_
  refine V.iconst (pc := 511) (z := 1) dL_law_511 rfl ⟨by decide, by decide⟩ ?_
  refine V.iadd (pc := 512) ((((i + 1) : Nat) : Int)) dL_law_512 (addN (a := i) (b := 1) (by omega)) ?_
  refine V.sald (pc := 513) (i + 1) dL_law_513 rfl (by omega) ?_
  refine V.callV (pc := 514) (e1 := eX7_taught) (o := 0) (c := 7) 1 [vI (xs (i + 1))] [] mfX7_taught slX7_taught mlL_82 dL_law_514 (kS_0) (by decide) rfl rfl rfl (Nat.le_of_ble_eq_true rfl) ⟨by decide, by decide, by decide, by decide⟩ ?_
  refine c_X7_taught hi hl σ m g im hC (xs (i + 1))  _ (fun hi1 hl1 hfr1 hR1 => ?_)
  have hM1 := RM_fr hfr1 hM
  refine V.qI (pc := 514) rfl rfl ?_
  refine V.aload_n (pc := 517) 2 dL_law_517 rfl ?_
  refine V.aload_n (pc := 518) 0 dL_law_518 rfl ?_
  refine V.iload_n (pc := 519) 3 dL_law_519 rfl ?_
  refine V.iconst (pc := 520) (z := 1) dL_law_520 rfl ⟨by decide, by decide⟩ ?_
  refine V.iadd (pc := 521) ((((i + 1) : Nat) : Int)) dL_law_521 (addN (a := i) (b := 1) (by omega)) ?_
  refine V.sald (pc := 522) (i + 1) dL_law_522 rfl (by omega) ?_
  refine V.callV (pc := 523) (e1 := eX8_taught) (o := 77) (c := 8) 1 [vI (xs (i + 1))] [vI (aTau (σ, m, g, im) (xs (i + 1)))] mfX8_taught slX8_taught mlL_85 dL_law_523 (kS_77) (by decide) rfl rfl rfl (Nat.le_of_ble_eq_true rfl) ⟨by decide, by decide, by decide, by decide⟩ ?_
  refine c_X8_taught hi1 hl1 σ m g im hM1 (xs (i + 1))  _ (fun hi2 hl2 hfr2 hR2 => ?_)
  have hC2 := RC_fr hfr2 hR1
  refine V.qI (pc := 523) rfl rfl ?_
  refine V.icmp_eq (pc := 526) 775 dL_law_526 (by decide) (fun h526 => ?_) (fun hc => by exact absurd rfl hc)
  exact ct775  (_) (_) (_) (hC2) (hR2)

set_option maxRecDepth 100000 in
theorem law_c17 {L : Nat} {xs : Nat → Int} (hxs : ∀ j, rI (xs j)) (hL : L ≤ 2560) (i : Nat) (hiL : i + 5 ≤ L) (hi hl : HI) (σ : SG) (m : Nat) (g : Nat → Int) (im : Nat → Option SG) (hC : RC hi hl (σ, m, g, im)) (hM : RMo hi hl (σ, m, g, im)) (ct775 : ∀ (hi' hl' : HI) (G' : GS), RC hi' hl' G' → RMo hi' hl' G' → V eL_law (some (L, xs)) KW 775 [(0, vR SC), (1, vR 0), (2, vR 77), (3, vI ((i : Nat) : Int))] [] hi' hl' 96 78974 QL) : V eL_law (some (L, xs)) KW 531 [(0, vR SC), (1, vR 0), (2, vR 77), (3, vI ((i : Nat) : Int))] [] hi hl 96 78974 QL := by
  refine V.aload_n (pc := 531) 1 dL_law_531 rfl ?_
  refine V.aload_n (pc := 532) 0 dL_law_532 rfl ?_
  refine V.iload_n (pc := 533) 3 dL_law_533 rfl ?_
  refine V.iconst (pc := 534) (z := 1) dL_law_534 rfl ⟨by decide, by decide⟩ ?_
  refine V.iadd (pc := 535) ((((i + 1) : Nat) : Int)) dL_law_535 (addN (a := i) (b := 1) (by omega)) ?_
  refine V.sald (pc := 536) (i + 1) dL_law_536 rfl (by omega) ?_
  refine V.callV (pc := 537) (e1 := eX7_few) (o := 0) (c := 7) 1 [vI (xs (i + 1))] [] mfX7_few slX7_few mlL_86 dL_law_537 (kS_0) (by decide) rfl rfl rfl (Nat.le_of_ble_eq_true rfl) ⟨by decide, by decide, by decide, by decide⟩ ?_
  refine c_X7_few hi hl σ m g im hC (xs (i + 1))  _ (fun hi1 hl1 hfr1 hR1 => ?_)
  have hM1 := RM_fr hfr1 hM
  refine V.qI (pc := 537) rfl rfl ?_
  refine V.aload_n (pc := 540) 2 dL_law_540 rfl ?_
  refine V.aload_n (pc := 541) 0 dL_law_541 rfl ?_
  refine V.iload_n (pc := 542) 3 dL_law_542 rfl ?_
  refine V.iconst (pc := 543) (z := 1) dL_law_543 rfl ⟨by decide, by decide⟩ ?_
  refine V.iadd (pc := 544) ((((i + 1) : Nat) : Int)) dL_law_544 (addN (a := i) (b := 1) (by omega)) ?_
  refine V.sald (pc := 545) (i + 1) dL_law_545 rfl (by omega) ?_
  refine V.callV (pc := 546) (e1 := eX8_few) (o := 77) (c := 8) 1 [vI (xs (i + 1))] [vI (aFew (σ, m, g, im) (xs (i + 1)))] mfX8_few slX8_few mlL_89 dL_law_546 (kS_77) (by decide) rfl rfl rfl (Nat.le_of_ble_eq_true rfl) ⟨by decide, by decide, by decide, by decide⟩ ?_
  refine c_X8_few hi1 hl1 σ m g im hM1 (xs (i + 1))  _ (fun hi2 hl2 hfr2 hR2 => ?_)
  have hC2 := RC_fr hfr2 hR1
  refine V.qI (pc := 546) rfl rfl ?_
  refine V.icmp_eq (pc := 549) 775 dL_law_549 (by decide) (fun h549 => ?_) (fun hc => by exact absurd rfl hc)
  exact ct775  (_) (_) (_) (hC2) (hR2)

set_option maxRecDepth 100000 in
theorem law_c18 {L : Nat} {xs : Nat → Int} (hxs : ∀ j, rI (xs j)) (hL : L ≤ 2560) (i : Nat) (hiL : i + 5 ≤ L) (hi hl : HI) (σ : SG) (m : Nat) (g : Nat → Int) (im : Nat → Option SG) (hC : RC hi hl (σ, m, g, im)) (hM : RMo hi hl (σ, m, g, im)) (ct775 : ∀ (hi' hl' : HI) (G' : GS), RC hi' hl' G' → RMo hi' hl' G' → V eL_law (some (L, xs)) KW 775 [(0, vR SC), (1, vR 0), (2, vR 77), (3, vI ((i : Nat) : Int))] [] hi' hl' 96 78974 QL) : V eL_law (some (L, xs)) KW 554 [(0, vR SC), (1, vR 0), (2, vR 77), (3, vI ((i : Nat) : Int))] [] hi hl 96 78974 QL := by
  refine V.aload_n (pc := 554) 1 dL_law_554 rfl ?_
  refine V.aload_n (pc := 555) 0 dL_law_555 rfl ?_
  refine V.iload_n (pc := 556) 3 dL_law_556 rfl ?_
  refine V.iconst (pc := 557) (z := 1) dL_law_557 rfl ⟨by decide, by decide⟩ ?_
  refine V.iadd (pc := 558) ((((i + 1) : Nat) : Int)) dL_law_558 (addN (a := i) (b := 1) (by omega)) ?_
  refine V.sald (pc := 559) (i + 1) dL_law_559 rfl (by omega) ?_
  refine V.aload_n (pc := 560) 0 dL_law_560 rfl ?_
  refine V.iload_n (pc := 561) 3 dL_law_561 rfl ?_
  refine V.iconst (pc := 562) (z := 2) dL_law_562 rfl ⟨by decide, by decide⟩ ?_
  refine V.iadd (pc := 563) ((((i + 2) : Nat) : Int)) dL_law_563 (addN (a := i) (b := 2) (by omega)) ?_
  refine V.sald (pc := 564) (i + 2) dL_law_564 rfl (by omega) ?_
  refine V.callV (pc := 565) (e1 := eX7_doubt) (o := 0) (c := 7) 2 [vI (xs (i + 1)), vI (xs (i + 2))] [] mfX7_doubt slX7_doubt mlL_90 dL_law_565 (kS_0) (by decide) rfl rfl rfl (Nat.le_of_ble_eq_true rfl) ⟨by decide, by decide, by decide, by decide⟩ ?_
  refine c_X7_doubt hi hl σ m g im hC (xs (i + 1)) (xs (i + 2))  _ (fun hi1 hl1 hfr1 hR1 => ?_)
  have hM1 := RM_fr hfr1 hM
  refine V.qI (pc := 565) rfl rfl ?_
  refine V.aload_n (pc := 568) 2 dL_law_568 rfl ?_
  refine V.aload_n (pc := 569) 0 dL_law_569 rfl ?_
  refine V.iload_n (pc := 570) 3 dL_law_570 rfl ?_
  refine V.iconst (pc := 571) (z := 1) dL_law_571 rfl ⟨by decide, by decide⟩ ?_
  refine V.iadd (pc := 572) ((((i + 1) : Nat) : Int)) dL_law_572 (addN (a := i) (b := 1) (by omega)) ?_
  refine V.sald (pc := 573) (i + 1) dL_law_573 rfl (by omega) ?_
  refine V.aload_n (pc := 574) 0 dL_law_574 rfl ?_
  refine V.iload_n (pc := 575) 3 dL_law_575 rfl ?_
  refine V.iconst (pc := 576) (z := 2) dL_law_576 rfl ⟨by decide, by decide⟩ ?_
  refine V.iadd (pc := 577) ((((i + 2) : Nat) : Int)) dL_law_577 (addN (a := i) (b := 2) (by omega)) ?_
  refine V.sald (pc := 578) (i + 2) dL_law_578 rfl (by omega) ?_
  refine V.callV (pc := 579) (e1 := eX8_doubt) (o := 77) (c := 8) 2 [vI (xs (i + 1)), vI (xs (i + 2))] [vI (aDoubt (σ, m, g, im) (xs (i + 1)) (xs (i + 2)))] mfX8_doubt slX8_doubt mlL_93 dL_law_579 (kS_77) (by decide) rfl rfl rfl (Nat.le_of_ble_eq_true rfl) ⟨by decide, by decide, by decide, by decide⟩ ?_
  refine c_X8_doubt hi1 hl1 σ m g im hM1 (xs (i + 1)) (xs (i + 2))  _ (fun hi2 hl2 hfr2 hR2 => ?_)
  have hC2 := RC_fr hfr2 hR1
  refine V.qI (pc := 579) rfl rfl ?_
  refine V.icmp_eq (pc := 582) 775 dL_law_582 (by decide) (fun h582 => ?_) (fun hc => by exact absurd rfl hc)
  exact ct775  (_) (_) (_) (hC2) (hR2)

set_option maxRecDepth 100000 in
theorem law_c19 {L : Nat} {xs : Nat → Int} (hxs : ∀ j, rI (xs j)) (hL : L ≤ 2560) (i : Nat) (hiL : i + 5 ≤ L) (hi hl : HI) (σ : SG) (m : Nat) (g : Nat → Int) (im : Nat → Option SG) (hC : RC hi hl (σ, m, g, im)) (hM : RMo hi hl (σ, m, g, im)) (ct775 : ∀ (hi' hl' : HI) (G' : GS), RC hi' hl' G' → RMo hi' hl' G' → V eL_law (some (L, xs)) KW 775 [(0, vR SC), (1, vR 0), (2, vR 77), (3, vI ((i : Nat) : Int))] [] hi' hl' 96 78974 QL) : V eL_law (some (L, xs)) KW 587 [(0, vR SC), (1, vR 0), (2, vR 77), (3, vI ((i : Nat) : Int))] [] hi hl 96 78974 QL := by
  refine V.aload_n (pc := 587) 1 dL_law_587 rfl ?_
  refine V.aload_n (pc := 588) 0 dL_law_588 rfl ?_
  refine V.iload_n (pc := 589) 3 dL_law_589 rfl ?_
  refine V.iconst (pc := 590) (z := 1) dL_law_590 rfl ⟨by decide, by decide⟩ ?_
  refine V.iadd (pc := 591) ((((i + 1) : Nat) : Int)) dL_law_591 (addN (a := i) (b := 1) (by omega)) ?_
  refine V.sald (pc := 592) (i + 1) dL_law_592 rfl (by omega) ?_
  refine V.callV (pc := 593) (e1 := eX7_rare) (o := 0) (c := 7) 1 [vI (xs (i + 1))] [] mfX7_rare slX7_rare mlL_94 dL_law_593 (kS_0) (by decide) rfl rfl rfl (Nat.le_of_ble_eq_true rfl) ⟨by decide, by decide, by decide, by decide⟩ ?_
  refine c_X7_rare hi hl σ m g im hC (xs (i + 1))  _ (fun hi1 hl1 hfr1 hR1 => ?_)
  have hM1 := RM_fr hfr1 hM
  refine V.qI (pc := 593) rfl rfl ?_
  refine V.aload_n (pc := 596) 2 dL_law_596 rfl ?_
  refine V.aload_n (pc := 597) 0 dL_law_597 rfl ?_
  refine V.iload_n (pc := 598) 3 dL_law_598 rfl ?_
  refine V.iconst (pc := 599) (z := 1) dL_law_599 rfl ⟨by decide, by decide⟩ ?_
  refine V.iadd (pc := 600) ((((i + 1) : Nat) : Int)) dL_law_600 (addN (a := i) (b := 1) (by omega)) ?_
  refine V.sald (pc := 601) (i + 1) dL_law_601 rfl (by omega) ?_
  refine V.callV (pc := 602) (e1 := eX8_rare) (o := 77) (c := 8) 1 [vI (xs (i + 1))] [vI (aRare (σ, m, g, im) (xs (i + 1)))] mfX8_rare slX8_rare mlL_97 dL_law_602 (kS_77) (by decide) rfl rfl rfl (Nat.le_of_ble_eq_true rfl) ⟨by decide, by decide, by decide, by decide⟩ ?_
  refine c_X8_rare hi1 hl1 σ m g im hM1 (xs (i + 1))  _ (fun hi2 hl2 hfr2 hR2 => ?_)
  have hC2 := RC_fr hfr2 hR1
  refine V.qI (pc := 602) rfl rfl ?_
  refine V.icmp_eq (pc := 605) 775 dL_law_605 (by decide) (fun h605 => ?_) (fun hc => by exact absurd rfl hc)
  exact ct775  (_) (_) (_) (hC2) (hR2)

set_option maxRecDepth 100000 in
theorem law_c20 {L : Nat} {xs : Nat → Int} (hxs : ∀ j, rI (xs j)) (hL : L ≤ 2560) (i : Nat) (hiL : i + 5 ≤ L) (hi hl : HI) (σ : SG) (m : Nat) (g : Nat → Int) (im : Nat → Option SG) (hC : RC hi hl (σ, m, g, im)) (hM : RMo hi hl (σ, m, g, im)) (ct775 : ∀ (hi' hl' : HI) (G' : GS), RC hi' hl' G' → RMo hi' hl' G' → V eL_law (some (L, xs)) KW 775 [(0, vR SC), (1, vR 0), (2, vR 77), (3, vI ((i : Nat) : Int))] [] hi' hl' 96 78974 QL) : V eL_law (some (L, xs)) KW 610 [(0, vR SC), (1, vR 0), (2, vR 77), (3, vI ((i : Nat) : Int))] [] hi hl 96 78974 QL := by
  refine V.aload_n (pc := 610) 1 dL_law_610 rfl ?_
  refine V.aload_n (pc := 611) 0 dL_law_611 rfl ?_
  refine V.iload_n (pc := 612) 3 dL_law_612 rfl ?_
  refine V.iconst (pc := 613) (z := 1) dL_law_613 rfl ⟨by decide, by decide⟩ ?_
  refine V.iadd (pc := 614) ((((i + 1) : Nat) : Int)) dL_law_614 (addN (a := i) (b := 1) (by omega)) ?_
  refine V.sald (pc := 615) (i + 1) dL_law_615 rfl (by omega) ?_
  refine V.aload_n (pc := 616) 0 dL_law_616 rfl ?_
  refine V.iload_n (pc := 617) 3 dL_law_617 rfl ?_
  refine V.iconst (pc := 618) (z := 2) dL_law_618 rfl ⟨by decide, by decide⟩ ?_
  refine V.iadd (pc := 619) ((((i + 2) : Nat) : Int)) dL_law_619 (addN (a := i) (b := 2) (by omega)) ?_
  refine V.sald (pc := 620) (i + 2) dL_law_620 rfl (by omega) ?_
  refine V.aload_n (pc := 621) 0 dL_law_621 rfl ?_
  refine V.iload_n (pc := 622) 3 dL_law_622 rfl ?_
  refine V.iconst (pc := 623) (z := 3) dL_law_623 rfl ⟨by decide, by decide⟩ ?_
  refine V.iadd (pc := 624) ((((i + 3) : Nat) : Int)) dL_law_624 (addN (a := i) (b := 3) (by omega)) ?_
  refine V.sald (pc := 625) (i + 3) dL_law_625 rfl (by omega) ?_
  refine V.aload_n (pc := 626) 0 dL_law_626 rfl ?_
  refine V.iload_n (pc := 627) 3 dL_law_627 rfl ?_
  refine V.iconst (pc := 628) (z := 4) dL_law_628 rfl ⟨by decide, by decide⟩ ?_
  refine V.iadd (pc := 629) ((((i + 4) : Nat) : Int)) dL_law_629 (addN (a := i) (b := 4) (by omega)) ?_
  refine V.sald (pc := 630) (i + 4) dL_law_630 rfl (by omega) ?_
  refine V.callV (pc := 631) (e1 := eX7_years) (o := 0) (c := 7) 4 [vI (xs (i + 1)), vI (xs (i + 2)), vI (xs (i + 3)), vI (xs (i + 4))] [] mfX7_years slX7_years mlL_98 dL_law_631 (kS_0) (by decide) rfl rfl rfl (Nat.le_of_ble_eq_true rfl) ⟨by decide, by decide, by decide, by decide⟩ ?_
  refine c_X7_years hi hl σ m g im hC (xs (i + 1)) (xs (i + 2)) (xs (i + 3)) (xs (i + 4))  _ (fun hi1 hl1 hfr1 hR1 => ?_)
  have hM1 := RM_fr hfr1 hM
  refine V.qI (pc := 631) rfl rfl ?_
  refine V.aload_n (pc := 634) 2 dL_law_634 rfl ?_
  refine V.aload_n (pc := 635) 0 dL_law_635 rfl ?_
  refine V.iload_n (pc := 636) 3 dL_law_636 rfl ?_
  refine V.iconst (pc := 637) (z := 1) dL_law_637 rfl ⟨by decide, by decide⟩ ?_
  refine V.iadd (pc := 638) ((((i + 1) : Nat) : Int)) dL_law_638 (addN (a := i) (b := 1) (by omega)) ?_
  refine V.sald (pc := 639) (i + 1) dL_law_639 rfl (by omega) ?_
  refine V.aload_n (pc := 640) 0 dL_law_640 rfl ?_
  refine V.iload_n (pc := 641) 3 dL_law_641 rfl ?_
  refine V.iconst (pc := 642) (z := 2) dL_law_642 rfl ⟨by decide, by decide⟩ ?_
  refine V.iadd (pc := 643) ((((i + 2) : Nat) : Int)) dL_law_643 (addN (a := i) (b := 2) (by omega)) ?_
  refine V.sald (pc := 644) (i + 2) dL_law_644 rfl (by omega) ?_
  refine V.aload_n (pc := 645) 0 dL_law_645 rfl ?_
  refine V.iload_n (pc := 646) 3 dL_law_646 rfl ?_
  refine V.iconst (pc := 647) (z := 3) dL_law_647 rfl ⟨by decide, by decide⟩ ?_
  refine V.iadd (pc := 648) ((((i + 3) : Nat) : Int)) dL_law_648 (addN (a := i) (b := 3) (by omega)) ?_
  refine V.sald (pc := 649) (i + 3) dL_law_649 rfl (by omega) ?_
  refine V.aload_n (pc := 650) 0 dL_law_650 rfl ?_
  refine V.iload_n (pc := 651) 3 dL_law_651 rfl ?_
  refine V.iconst (pc := 652) (z := 4) dL_law_652 rfl ⟨by decide, by decide⟩ ?_
  refine V.iadd (pc := 653) ((((i + 4) : Nat) : Int)) dL_law_653 (addN (a := i) (b := 4) (by omega)) ?_
  refine V.sald (pc := 654) (i + 4) dL_law_654 rfl (by omega) ?_
  refine V.callV (pc := 655) (e1 := eX8_years) (o := 77) (c := 8) 4 [vI (xs (i + 1)), vI (xs (i + 2)), vI (xs (i + 3)), vI (xs (i + 4))] [vI (aYears (σ, m, g, im) (xs (i + 1)) (xs (i + 2)) (xs (i + 3)) (xs (i + 4)))] mfX8_years slX8_years mlL_102 dL_law_655 (kS_77) (by decide) rfl rfl rfl (Nat.le_of_ble_eq_true rfl) ⟨by decide, by decide, by decide, by decide⟩ ?_
  refine c_X8_years hi1 hl1 σ m g im hM1 (xs (i + 1)) (xs (i + 2)) (xs (i + 3)) (xs (i + 4)) (hxs _) _ (fun hi2 hl2 hfr2 hR2 => ?_)
  have hC2 := RC_fr hfr2 hR1
  refine V.qI (pc := 655) rfl rfl ?_
  refine V.icmp_eq (pc := 658) 775 dL_law_658 (by decide) (fun h658 => ?_) (fun hc => by exact absurd rfl hc)
  exact ct775  (_) (_) (_) (hC2) (hR2)

set_option maxRecDepth 100000 in
theorem law_c21 {L : Nat} {xs : Nat → Int} (hxs : ∀ j, rI (xs j)) (hL : L ≤ 2560) (i : Nat) (hiL : i + 5 ≤ L) (hi hl : HI) (σ : SG) (m : Nat) (g : Nat → Int) (im : Nat → Option SG) (hC : RC hi hl (σ, m, g, im)) (hM : RMo hi hl (σ, m, g, im)) (ct775 : ∀ (hi' hl' : HI) (G' : GS), RC hi' hl' G' → RMo hi' hl' G' → V eL_law (some (L, xs)) KW 775 [(0, vR SC), (1, vR 0), (2, vR 77), (3, vI ((i : Nat) : Int))] [] hi' hl' 96 78974 QL) : V eL_law (some (L, xs)) KW 663 [(0, vR SC), (1, vR 0), (2, vR 77), (3, vI ((i : Nat) : Int))] [] hi hl 96 78974 QL := by
  refine V.aload_n (pc := 663) 1 dL_law_663 rfl ?_
  refine V.aload_n (pc := 664) 0 dL_law_664 rfl ?_
  refine V.iload_n (pc := 665) 3 dL_law_665 rfl ?_
  refine V.iconst (pc := 666) (z := 1) dL_law_666 rfl ⟨by decide, by decide⟩ ?_
  refine V.iadd (pc := 667) ((((i + 1) : Nat) : Int)) dL_law_667 (addN (a := i) (b := 1) (by omega)) ?_
  refine V.sald (pc := 668) (i + 1) dL_law_668 rfl (by omega) ?_
  refine V.aload_n (pc := 669) 0 dL_law_669 rfl ?_
  refine V.iload_n (pc := 670) 3 dL_law_670 rfl ?_
  refine V.iconst (pc := 671) (z := 2) dL_law_671 rfl ⟨by decide, by decide⟩ ?_
  refine V.iadd (pc := 672) ((((i + 2) : Nat) : Int)) dL_law_672 (addN (a := i) (b := 2) (by omega)) ?_
  refine V.sald (pc := 673) (i + 2) dL_law_673 rfl (by omega) ?_
  refine V.aload_n (pc := 674) 0 dL_law_674 rfl ?_
  refine V.iload_n (pc := 675) 3 dL_law_675 rfl ?_
  refine V.iconst (pc := 676) (z := 3) dL_law_676 rfl ⟨by decide, by decide⟩ ?_
  refine V.iadd (pc := 677) ((((i + 3) : Nat) : Int)) dL_law_677 (addN (a := i) (b := 3) (by omega)) ?_
  refine V.sald (pc := 678) (i + 3) dL_law_678 rfl (by omega) ?_
  refine V.callV (pc := 679) (e1 := eX7_lost) (o := 0) (c := 7) 3 [vI (xs (i + 1)), vI (xs (i + 2)), vI (xs (i + 3))] [] mfX7_lost slX7_lost mlL_103 dL_law_679 (kS_0) (by decide) rfl rfl rfl (Nat.le_of_ble_eq_true rfl) ⟨by decide, by decide, by decide, by decide⟩ ?_
  refine c_X7_lost hi hl σ m g im hC (xs (i + 1)) (xs (i + 2)) (xs (i + 3))  _ (fun hi1 hl1 hfr1 hR1 => ?_)
  have hM1 := RM_fr hfr1 hM
  refine V.qI (pc := 679) rfl rfl ?_
  refine V.aload_n (pc := 682) 2 dL_law_682 rfl ?_
  refine V.aload_n (pc := 683) 0 dL_law_683 rfl ?_
  refine V.iload_n (pc := 684) 3 dL_law_684 rfl ?_
  refine V.iconst (pc := 685) (z := 1) dL_law_685 rfl ⟨by decide, by decide⟩ ?_
  refine V.iadd (pc := 686) ((((i + 1) : Nat) : Int)) dL_law_686 (addN (a := i) (b := 1) (by omega)) ?_
  refine V.sald (pc := 687) (i + 1) dL_law_687 rfl (by omega) ?_
  refine V.aload_n (pc := 688) 0 dL_law_688 rfl ?_
  refine V.iload_n (pc := 689) 3 dL_law_689 rfl ?_
  refine V.iconst (pc := 690) (z := 2) dL_law_690 rfl ⟨by decide, by decide⟩ ?_
  refine V.iadd (pc := 691) ((((i + 2) : Nat) : Int)) dL_law_691 (addN (a := i) (b := 2) (by omega)) ?_
  refine V.sald (pc := 692) (i + 2) dL_law_692 rfl (by omega) ?_
  refine V.aload_n (pc := 693) 0 dL_law_693 rfl ?_
  refine V.iload_n (pc := 694) 3 dL_law_694 rfl ?_
  refine V.iconst (pc := 695) (z := 3) dL_law_695 rfl ⟨by decide, by decide⟩ ?_
  refine V.iadd (pc := 696) ((((i + 3) : Nat) : Int)) dL_law_696 (addN (a := i) (b := 3) (by omega)) ?_
  refine V.sald (pc := 697) (i + 3) dL_law_697 rfl (by omega) ?_
  refine V.callV (pc := 698) (e1 := eX8_lost) (o := 77) (c := 8) 3 [vI (xs (i + 1)), vI (xs (i + 2)), vI (xs (i + 3))] [vI (aLost (σ, m, g, im) (xs (i + 1)) (xs (i + 2)) (xs (i + 3)))] mfX8_lost slX8_lost mlL_107 dL_law_698 (kS_77) (by decide) rfl rfl rfl (Nat.le_of_ble_eq_true rfl) ⟨by decide, by decide, by decide, by decide⟩ ?_
  refine c_X8_lost hi1 hl1 σ m g im hM1 (xs (i + 1)) (xs (i + 2)) (xs (i + 3))  _ (fun hi2 hl2 hfr2 hR2 => ?_)
  have hC2 := RC_fr hfr2 hR1
  refine V.qI (pc := 698) rfl rfl ?_
  refine V.icmp_eq (pc := 701) 775 dL_law_701 (by decide) (fun h701 => ?_) (fun hc => by exact absurd rfl hc)
  exact ct775  (_) (_) (_) (hC2) (hR2)

set_option maxRecDepth 100000 in
theorem law_c22 {L : Nat} {xs : Nat → Int} (hxs : ∀ j, rI (xs j)) (hL : L ≤ 2560) (i : Nat) (hiL : i + 5 ≤ L) (hi hl : HI) (σ : SG) (m : Nat) (g : Nat → Int) (im : Nat → Option SG) (hC : RC hi hl (σ, m, g, im)) (hM : RMo hi hl (σ, m, g, im)) (ct775 : ∀ (hi' hl' : HI) (G' : GS), RC hi' hl' G' → RMo hi' hl' G' → V eL_law (some (L, xs)) KW 775 [(0, vR SC), (1, vR 0), (2, vR 77), (3, vI ((i : Nat) : Int))] [] hi' hl' 96 78974 QL) : V eL_law (some (L, xs)) KW 706 [(0, vR SC), (1, vR 0), (2, vR 77), (3, vI ((i : Nat) : Int))] [] hi hl 96 78974 QL := by
  refine V.aload_n (pc := 706) 1 dL_law_706 rfl ?_
  refine V.aload_n (pc := 707) 0 dL_law_707 rfl ?_
  refine V.iload_n (pc := 708) 3 dL_law_708 rfl ?_
  refine V.iconst (pc := 709) (z := 1) dL_law_709 rfl ⟨by decide, by decide⟩ ?_
  refine V.iadd (pc := 710) ((((i + 1) : Nat) : Int)) dL_law_710 (addN (a := i) (b := 1) (by omega)) ?_
  refine V.sald (pc := 711) (i + 1) dL_law_711 rfl (by omega) ?_
  refine V.callV (pc := 712) (e1 := eX7_image) (o := 0) (c := 7) 1 [vI (xs (i + 1))] [] mfX7_image slX7_image mlL_108 dL_law_712 (kS_0) (by decide) rfl rfl rfl (Nat.le_of_ble_eq_true rfl) ⟨by decide, by decide, by decide, by decide⟩ ?_
  refine c_X7_image hi hl σ m g im hC (xs (i + 1))  _ (fun hi1 hl1 hfr1 hR1 => ?_)
  have hM1 := RM_fr hfr1 hM
  refine V.qI (pc := 712) rfl rfl ?_
  refine V.aload_n (pc := 715) 2 dL_law_715 rfl ?_
  refine V.aload_n (pc := 716) 0 dL_law_716 rfl ?_
  refine V.iload_n (pc := 717) 3 dL_law_717 rfl ?_
  refine V.iconst (pc := 718) (z := 1) dL_law_718 rfl ⟨by decide, by decide⟩ ?_
  refine V.iadd (pc := 719) ((((i + 1) : Nat) : Int)) dL_law_719 (addN (a := i) (b := 1) (by omega)) ?_
  refine V.sald (pc := 720) (i + 1) dL_law_720 rfl (by omega) ?_
  refine V.callV (pc := 721) (e1 := eX8_image) (o := 77) (c := 8) 1 [vI (xs (i + 1))] [vI (aImg (σ, m, g, im) (xs (i + 1)))] mfX8_image slX8_image mlL_111 dL_law_721 (kS_77) (by decide) rfl rfl rfl (Nat.le_of_ble_eq_true rfl) ⟨by decide, by decide, by decide, by decide⟩ ?_
  refine c_X8_image hi1 hl1 σ m g im hM1 (xs (i + 1))  _ (fun hi2 hl2 hfr2 hR2 => ?_)
  have hC2 := RC_fr hfr2 hR1
  refine V.qI (pc := 721) rfl rfl ?_
  refine V.icmp_eq (pc := 724) 775 dL_law_724 (by decide) (fun h724 => ?_) (fun hc => by exact absurd rfl hc)
  exact ct775  (_) (_) (_) (hC2) (hR2)

set_option maxRecDepth 100000 in
theorem law_c23 {L : Nat} {xs : Nat → Int} (hxs : ∀ j, rI (xs j)) (hL : L ≤ 2560) (i : Nat) (hiL : i + 5 ≤ L) (hi hl : HI) (σ : SG) (m : Nat) (g : Nat → Int) (im : Nat → Option SG) (hC : RC hi hl (σ, m, g, im)) (hM : RMo hi hl (σ, m, g, im)) (ct775 : ∀ (hi' hl' : HI) (G' : GS), RC hi' hl' G' → RMo hi' hl' G' → V eL_law (some (L, xs)) KW 775 [(0, vR SC), (1, vR 0), (2, vR 77), (3, vI ((i : Nat) : Int))] [] hi' hl' 96 78974 QL) : V eL_law (some (L, xs)) KW 729 [(0, vR SC), (1, vR 0), (2, vR 77), (3, vI ((i : Nat) : Int))] [] hi hl 96 78974 QL := by
  refine V.aload_n (pc := 729) 1 dL_law_729 rfl ?_
  refine V.aload_n (pc := 730) 0 dL_law_730 rfl ?_
  refine V.iload_n (pc := 731) 3 dL_law_731 rfl ?_
  refine V.iconst (pc := 732) (z := 1) dL_law_732 rfl ⟨by decide, by decide⟩ ?_
  refine V.iadd (pc := 733) ((((i + 1) : Nat) : Int)) dL_law_733 (addN (a := i) (b := 1) (by omega)) ?_
  refine V.sald (pc := 734) (i + 1) dL_law_734 rfl (by omega) ?_
  refine V.callV (pc := 735) (e1 := eX7_restore) (o := 0) (c := 7) 1 [vI (xs (i + 1))] [] mfX7_restore slX7_restore mlL_112 dL_law_735 (kS_0) (by decide) rfl rfl rfl (Nat.le_of_ble_eq_true rfl) ⟨by decide, by decide, by decide, by decide⟩ ?_
  refine c_X7_restore hi hl σ m g im hC (xs (i + 1))  _ (fun hi1 hl1 hfr1 hR1 => ?_)
  have hM1 := RM_fr hfr1 hM
  refine V.qI (pc := 735) rfl rfl ?_
  refine V.aload_n (pc := 738) 2 dL_law_738 rfl ?_
  refine V.aload_n (pc := 739) 0 dL_law_739 rfl ?_
  refine V.iload_n (pc := 740) 3 dL_law_740 rfl ?_
  refine V.iconst (pc := 741) (z := 1) dL_law_741 rfl ⟨by decide, by decide⟩ ?_
  refine V.iadd (pc := 742) ((((i + 1) : Nat) : Int)) dL_law_742 (addN (a := i) (b := 1) (by omega)) ?_
  refine V.sald (pc := 743) (i + 1) dL_law_743 rfl (by omega) ?_
  refine V.callV (pc := 744) (e1 := eX8_restore) (o := 77) (c := 8) 1 [vI (xs (i + 1))] [vI (aRes (σ, m, g, im) (xs (i + 1)))] mfX8_restore slX8_restore mlL_115 dL_law_744 (kS_77) (by decide) rfl rfl rfl (Nat.le_of_ble_eq_true rfl) ⟨by decide, by decide, by decide, by decide⟩ ?_
  refine c_X8_restore hi1 hl1 σ m g im hM1 (xs (i + 1))  _ (fun hi2 hl2 hfr2 hR2 => ?_)
  have hC2 := RC_fr hfr2 hR1
  refine V.qI (pc := 744) rfl rfl ?_
  refine V.icmp_eq (pc := 747) 775 dL_law_747 (by decide) (fun h747 => ?_) (fun hc => by exact absurd rfl hc)
  exact ct775  (_) (_) (_) (hC2) (hR2)

set_option maxRecDepth 100000 in
theorem law_c24 {L : Nat} {xs : Nat → Int} (hxs : ∀ j, rI (xs j)) (hL : L ≤ 2560) (i : Nat) (hiL : i + 5 ≤ L) (hi hl : HI) (σ : SG) (m : Nat) (g : Nat → Int) (im : Nat → Option SG) (hC : RC hi hl (σ, m, g, im)) (hM : RMo hi hl (σ, m, g, im)) (ct775 : ∀ (hi' hl' : HI) (G' : GS), RC hi' hl' G' → RMo hi' hl' G' → V eL_law (some (L, xs)) KW 775 [(0, vR SC), (1, vR 0), (2, vR 77), (3, vI ((i : Nat) : Int))] [] hi' hl' 96 78974 QL) : V eL_law (some (L, xs)) KW 752 [(0, vR SC), (1, vR 0), (2, vR 77), (3, vI ((i : Nat) : Int))] [] hi hl 96 78974 QL := by
  refine V.aload_n (pc := 752) 1 dL_law_752 rfl ?_
  refine V.aload_n (pc := 753) 0 dL_law_753 rfl ?_
  refine V.iload_n (pc := 754) 3 dL_law_754 rfl ?_
  refine V.iconst (pc := 755) (z := 1) dL_law_755 rfl ⟨by decide, by decide⟩ ?_
  refine V.iadd (pc := 756) ((((i + 1) : Nat) : Int)) dL_law_756 (addN (a := i) (b := 1) (by omega)) ?_
  refine V.sald (pc := 757) (i + 1) dL_law_757 rfl (by omega) ?_
  refine V.callV (pc := 758) (e1 := eX7_told) (o := 0) (c := 7) 1 [vI (xs (i + 1))] [] mfX7_told slX7_told mlL_116 dL_law_758 (kS_0) (by decide) rfl rfl rfl (Nat.le_of_ble_eq_true rfl) ⟨by decide, by decide, by decide, by decide⟩ ?_
  refine c_X7_told hi hl σ m g im hC (xs (i + 1)) (hxs _) _ (fun hi1 hl1 hfr1 hR1 => ?_)
  have hM1 := RM_fr hfr1 hM
  refine V.qI (pc := 758) rfl rfl ?_
  refine V.aload_n (pc := 761) 2 dL_law_761 rfl ?_
  refine V.aload_n (pc := 762) 0 dL_law_762 rfl ?_
  refine V.iload_n (pc := 763) 3 dL_law_763 rfl ?_
  refine V.iconst (pc := 764) (z := 1) dL_law_764 rfl ⟨by decide, by decide⟩ ?_
  refine V.iadd (pc := 765) ((((i + 1) : Nat) : Int)) dL_law_765 (addN (a := i) (b := 1) (by omega)) ?_
  refine V.sald (pc := 766) (i + 1) dL_law_766 rfl (by omega) ?_
  refine V.callV (pc := 767) (e1 := eX8_told) (o := 77) (c := 8) 1 [vI (xs (i + 1))] [vI (aTold (σ, m, g, im) (xs (i + 1)))] mfX8_told slX8_told mlL_119 dL_law_767 (kS_77) (by decide) rfl rfl rfl (Nat.le_of_ble_eq_true rfl) ⟨by decide, by decide, by decide, by decide⟩ ?_
  refine c_X8_told hi1 hl1 σ m g im hM1 (xs (i + 1))  _ (fun hi2 hl2 hfr2 hR2 => ?_)
  have hC2 := RC_fr hfr2 hR1
  refine V.qI (pc := 767) rfl rfl ?_
  refine V.icmp_eq (pc := 770) 775 dL_law_770 (by decide) (fun h770 => ?_) (fun hc => by exact absurd rfl hc)
  exact ct775  (_) (_) (_) (hC2) (hR2)

