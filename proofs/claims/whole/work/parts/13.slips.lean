set_option maxRecDepth 100000 in
theorem c_X4_slipped (K : KK) (hi hl : HI) (s v p w : Nat) (hs1 : 1 ≤ s) (hs : s ≤ 3) (hv : v < 364) (hp : p < spP s v) (hw : w < spW s) (Q : QT) (hq : Q (some (vI (sp s v p w : Nat))) K hi hl) : Con eX4_slipped [vI (s : Nat), vI (v - f3 (L3 v) : Nat), vI (L3 v : Nat), vI (p : Nat), vI (w : Nat)] K hi hl Q := by
  refine Con.ofV (by decide +kernel) (Nat.le_of_ble_eq_true rfl) ?_
  show V eX4_slipped none K 0 [(0, vI ((s : Nat) : Int)), (1, vI ((v - f3 (L3 v) : Nat) : Int)), (2, vI ((L3 v : Nat) : Int)), (3, vI ((p : Nat) : Int)), (4, vI ((w : Nat) : Int))] [] hi hl 0 0 Q
  have hL := L3_le v
  obtain ⟨hf1, hf2, hf3⟩ := L3_f hv
  have hpp : (s = 3 ∧ L3 v ≤ 4 ∧ p ≤ L3 v) ∨ (s ≠ 3 ∧ p < L3 v) := by unfold spP at hp; split at hp <;> (try split at hp) <;> omega
  have hw2 : w ≤ 2 := by unfold spW at hw; split at hw <;> omega
  have hg1 := f3_mono (show L3 v + 1 ≤ 6 by omega)
  have hg2 := f3_mono (show L3 v ≤ 6 by omega)
  have hg3 := f3_mono (show L3 v - 1 ≤ 6 by omega)
  have hg6 : f3 6 = 364 := rfl
  have hb1 := p3_pos (L3 v - p)
  have hb2 := p3_6 (show L3 v - p ≤ 6 by omega)
  have hc1 := p3_pos (L3 v - 1 - p)
  have hc2 := p3_6 (show L3 v - 1 - p ≤ 6 by omega)
  have hd1 := Nat.div_le_self (v - f3 (L3 v)) (p3 (L3 v - p))
  have hd2 := Nat.div_le_self (v - f3 (L3 v)) (p3 (L3 v - 1 - p) * 3)
  have hm1 := Nat.mod_le (v - f3 (L3 v)) (p3 (L3 v - p))
  have hm2 := Nat.mod_le (v - f3 (L3 v)) (p3 (L3 v - 1 - p))
  have hx1 := Nat.mul_le_mul (show (v - f3 (L3 v)) / p3 (L3 v - p) * 3 + w ≤ 1100 by omega) hb2
  have hx2 := Nat.mul_le_mul (show (v - f3 (L3 v)) / (p3 (L3 v - 1 - p) * 3) * 3 + w ≤ 1100 by omega) hc2
  have hx3 := Nat.mul_le_mul (show (v - f3 (L3 v)) / (p3 (L3 v - 1 - p) * 3) ≤ 1100 by omega) hc2
  refine V.iload_n (pc := 0) 0 dX4_slipped_0 rfl ?_
  refine V.iconst (pc := 1) (z := 3) dX4_slipped_1 rfl ⟨by decide, by decide⟩ ?_
  refine V.icmp_ne (pc := 2) 38 dX4_slipped_2 (by decide) (fun h2 => ?_) (fun h2 => ?_)
  · skip
    refine V.iload_n (pc := 38) 2 dX4_slipped_38 rfl ?_
    refine V.iconst (pc := 39) (z := 1) dX4_slipped_39 rfl ⟨by decide, by decide⟩ ?_
    refine V.isub (pc := 40) (((L3 v - 1 : Nat) : Int)) dX4_slipped_40 (w32_of (by omega) (by omega) (by omega)) ?_
    refine V.iload_n (pc := 41) 3 dX4_slipped_41 rfl ?_
    refine V.isub (pc := 42) (((L3 v - 1 - p : Nat) : Int)) dX4_slipped_42 (w32_of (by omega) (by omega) (by omega)) ?_
    refine V.callS (pc := 43) (e1 := eX7_power) 1 [vI ((L3 v - 1 - p : Nat) : Int)] [] mfX7_power slX7_power mlX4_40 dX4_slipped_43 rfl rfl (Nat.le_of_ble_eq_true rfl) ⟨by decide, by decide, by decide, by decide⟩ ?_
    refine c_X7_power K hi hl (L3 v - 1 - p) (by omega) _ ?_
    refine V.qI (pc := 43) rfl rfl ?_
    refine V.istore (pc := 46) (i := 5) dX4_slipped_46 (by decide) (ls' := [(5, vI ((p3 (L3 v - 1 - p) : Nat) : Int)), (0, vI ((s : Nat) : Int)), (1, vI ((v - f3 (L3 v) : Nat) : Int)), (2, vI ((L3 v : Nat) : Int)), (3, vI ((p : Nat) : Int)), (4, vI ((w : Nat) : Int))]) rfl ?_
    refine V.iload_n (pc := 48) 2 dX4_slipped_48 rfl ?_
    refine V.iload (pc := 49) 0 dX4_slipped_49 rfl ?_
    refine V.iconst (pc := 51) (z := 3) dX4_slipped_51 rfl ⟨by decide, by decide⟩ ?_
    refine V.imul (pc := 52) ((((p3 (L3 v - 1 - p)) * 3 : Nat) : Int)) dX4_slipped_52 (mulN (a := p3 (L3 v - 1 - p)) (b := 3) (by omega)) ?_
    refine V.idiv (pc := 53) ((((v - f3 (L3 v)) / ((p3 (L3 v - 1 - p)) * 3) : Nat) : Int)) dX4_slipped_53 (by omega) (dN (a := (v - f3 (L3 v))) (b := ((p3 (L3 v - 1 - p)) * 3)) (by omega) (by omega) (by omega)) (rI_n (by omega)) ?_
    refine V.istore (pc := 54) (i := 6) dX4_slipped_54 (by decide) (ls' := [(6, vI (((v - f3 (L3 v)) / ((p3 (L3 v - 1 - p)) * 3) : Nat) : Int)), (5, vI ((p3 (L3 v - 1 - p) : Nat) : Int)), (0, vI ((s : Nat) : Int)), (1, vI ((v - f3 (L3 v) : Nat) : Int)), (2, vI ((L3 v : Nat) : Int)), (3, vI ((p : Nat) : Int)), (4, vI ((w : Nat) : Int))]) rfl ?_
    refine V.iload_n (pc := 56) 2 dX4_slipped_56 rfl ?_
    refine V.iconst (pc := 57) (z := 1) dX4_slipped_57 rfl ⟨by decide, by decide⟩ ?_
    refine V.icmp_ne (pc := 58) 79 dX4_slipped_58 (by decide) (fun h58 => ?_) (fun h58 => ?_)
    · skip
      refine V.iload_n (pc := 79) 4 dX4_slipped_79 rfl ?_
      refine V.callS (pc := 80) (e1 := eX7_firstOf) 1 [vI ((L3 v : Nat) : Int)] [] mfX7_firstOf slX7_firstOf mlX4_30 dX4_slipped_80 rfl rfl (Nat.le_of_ble_eq_true rfl) ⟨by decide, by decide, by decide, by decide⟩ ?_
      refine c_X7_firstOf K hi hl (L3 v) (by omega) _ ?_
      refine V.qI (pc := 80) rfl rfl ?_
      refine V.iload (pc := 83) 0 dX4_slipped_83 rfl ?_
      refine V.iconst (pc := 85) (z := 3) dX4_slipped_85 rfl ⟨by decide, by decide⟩ ?_
      refine V.imul (pc := 86) (((((v - f3 (L3 v)) / ((p3 (L3 v - 1 - p)) * 3)) * 3 : Nat) : Int)) dX4_slipped_86 (mulN (a := (v - f3 (L3 v)) / ((p3 (L3 v - 1 - p)) * 3)) (b := 3) (by omega)) ?_
      refine V.iload (pc := 87) 6 dX4_slipped_87 rfl ?_
      refine V.iadd (pc := 89) ((((((v - f3 (L3 v)) / ((p3 (L3 v - 1 - p)) * 3)) * 3 + w) : Nat) : Int)) dX4_slipped_89 (addN (a := ((v - f3 (L3 v)) / ((p3 (L3 v - 1 - p)) * 3)) * 3) (b := w) (by omega)) ?_
      refine V.iload (pc := 90) 1 dX4_slipped_90 rfl ?_
      refine V.imul (pc := 92) ((((((v - f3 (L3 v)) / ((p3 (L3 v - 1 - p)) * 3)) * 3 + w) * (p3 (L3 v - 1 - p)) : Nat) : Int)) dX4_slipped_92 (mulN (a := (((v - f3 (L3 v)) / ((p3 (L3 v - 1 - p)) * 3)) * 3 + w)) (b := p3 (L3 v - 1 - p)) (by omega)) ?_
      refine V.iadd (pc := 93) ((((f3 (L3 v) + (((v - f3 (L3 v)) / ((p3 (L3 v - 1 - p)) * 3)) * 3 + w) * (p3 (L3 v - 1 - p))) : Nat) : Int)) dX4_slipped_93 (addN (a := f3 (L3 v)) (b := (((v - f3 (L3 v)) / ((p3 (L3 v - 1 - p)) * 3)) * 3 + w) * (p3 (L3 v - 1 - p))) (by omega)) ?_
      refine V.iload_n (pc := 94) 3 dX4_slipped_94 rfl ?_
      refine V.iload (pc := 95) 1 dX4_slipped_95 rfl ?_
      refine V.irem (pc := 97) ((((v - f3 (L3 v)) % (p3 (L3 v - 1 - p)) : Nat) : Int)) dX4_slipped_97 (by omega) (mN (a := (v - f3 (L3 v))) (b := (p3 (L3 v - 1 - p))) (by omega) (by omega) (by omega)) (rI_n (by omega)) ?_
      refine V.iadd (pc := 98) (((((f3 (L3 v) + (((v - f3 (L3 v)) / ((p3 (L3 v - 1 - p)) * 3)) * 3 + w) * (p3 (L3 v - 1 - p))) + (v - f3 (L3 v)) % (p3 (L3 v - 1 - p))) : Nat) : Int)) dX4_slipped_98 (addN (a := (f3 (L3 v) + (((v - f3 (L3 v)) / ((p3 (L3 v - 1 - p)) * 3)) * 3 + w) * (p3 (L3 v - 1 - p)))) (b := (v - f3 (L3 v)) % (p3 (L3 v - 1 - p))) (by omega)) ?_
      refine V.iret (pc := 99) (z := ((((f3 (L3 v) + (((v - f3 (L3 v)) / ((p3 (L3 v - 1 - p)) * 3)) * 3 + w) * (p3 (L3 v - 1 - p))) + (v - f3 (L3 v)) % (p3 (L3 v - 1 - p))) : Nat) : Int)) dX4_slipped_99 rfl ?_
      rw [show sp s v p w = _ by unfold sp; rw [if_neg (by omega), if_neg (by omega)]] at hq
      exact hq
    · skip
      refine V.iload_n (pc := 61) 4 dX4_slipped_61 rfl ?_
      refine V.iconst (pc := 62) (z := 1) dX4_slipped_62 rfl ⟨by decide, by decide⟩ ?_
      refine V.isub (pc := 63) (((L3 v - 1 : Nat) : Int)) dX4_slipped_63 (w32_of (by omega) (by omega) (by omega)) ?_
      refine V.callS (pc := 64) (e1 := eX7_firstOf) 1 [vI ((L3 v - 1 : Nat) : Int)] [] mfX7_firstOf slX7_firstOf mlX4_30 dX4_slipped_64 rfl rfl (Nat.le_of_ble_eq_true rfl) ⟨by decide, by decide, by decide, by decide⟩ ?_
      refine c_X7_firstOf K hi hl (L3 v - 1) (by omega) _ ?_
      refine V.qI (pc := 64) rfl rfl ?_
      refine V.iload (pc := 67) 0 dX4_slipped_67 rfl ?_
      refine V.iload (pc := 69) 1 dX4_slipped_69 rfl ?_
      refine V.imul (pc := 71) (((((v - f3 (L3 v)) / ((p3 (L3 v - 1 - p)) * 3)) * (p3 (L3 v - 1 - p)) : Nat) : Int)) dX4_slipped_71 (mulN (a := (v - f3 (L3 v)) / ((p3 (L3 v - 1 - p)) * 3)) (b := p3 (L3 v - 1 - p)) (by omega)) ?_
      refine V.iadd (pc := 72) ((((f3 (L3 v - 1) + ((v - f3 (L3 v)) / ((p3 (L3 v - 1 - p)) * 3)) * (p3 (L3 v - 1 - p))) : Nat) : Int)) dX4_slipped_72 (addN (a := f3 (L3 v - 1)) (b := ((v - f3 (L3 v)) / ((p3 (L3 v - 1 - p)) * 3)) * (p3 (L3 v - 1 - p))) (by omega)) ?_
      refine V.iload_n (pc := 73) 3 dX4_slipped_73 rfl ?_
      refine V.iload (pc := 74) 1 dX4_slipped_74 rfl ?_
      refine V.irem (pc := 76) ((((v - f3 (L3 v)) % (p3 (L3 v - 1 - p)) : Nat) : Int)) dX4_slipped_76 (by omega) (mN (a := (v - f3 (L3 v))) (b := (p3 (L3 v - 1 - p))) (by omega) (by omega) (by omega)) (rI_n (by omega)) ?_
      refine V.iadd (pc := 77) (((((f3 (L3 v - 1) + ((v - f3 (L3 v)) / ((p3 (L3 v - 1 - p)) * 3)) * (p3 (L3 v - 1 - p))) + (v - f3 (L3 v)) % (p3 (L3 v - 1 - p))) : Nat) : Int)) dX4_slipped_77 (addN (a := (f3 (L3 v - 1) + ((v - f3 (L3 v)) / ((p3 (L3 v - 1 - p)) * 3)) * (p3 (L3 v - 1 - p)))) (b := (v - f3 (L3 v)) % (p3 (L3 v - 1 - p))) (by omega)) ?_
      refine V.iret (pc := 78) (z := ((((f3 (L3 v - 1) + ((v - f3 (L3 v)) / ((p3 (L3 v - 1 - p)) * 3)) * (p3 (L3 v - 1 - p))) + (v - f3 (L3 v)) % (p3 (L3 v - 1 - p))) : Nat) : Int)) dX4_slipped_78 rfl ?_
      rw [show sp s v p w = _ by unfold sp; rw [if_neg (by omega), if_pos (by omega)]] at hq
      exact hq
  · skip
    refine V.iload_n (pc := 5) 2 dX4_slipped_5 rfl ?_
    refine V.iload_n (pc := 6) 3 dX4_slipped_6 rfl ?_
    refine V.isub (pc := 7) (((L3 v - p : Nat) : Int)) dX4_slipped_7 (w32_of (by omega) (by omega) (by omega)) ?_
    refine V.callS (pc := 8) (e1 := eX7_power) 1 [vI ((L3 v - p : Nat) : Int)] [] mfX7_power slX7_power mlX4_40 dX4_slipped_8 rfl rfl (Nat.le_of_ble_eq_true rfl) ⟨by decide, by decide, by decide, by decide⟩ ?_
    refine c_X7_power K hi hl (L3 v - p) (by omega) _ ?_
    refine V.qI (pc := 8) rfl rfl ?_
    refine V.istore (pc := 11) (i := 5) dX4_slipped_11 (by decide) (ls' := [(5, vI ((p3 (L3 v - p) : Nat) : Int)), (0, vI ((s : Nat) : Int)), (1, vI ((v - f3 (L3 v) : Nat) : Int)), (2, vI ((L3 v : Nat) : Int)), (3, vI ((p : Nat) : Int)), (4, vI ((w : Nat) : Int))]) rfl ?_
    refine V.iload_n (pc := 13) 3 dX4_slipped_13 rfl ?_
    refine V.iconst (pc := 14) (z := 1) dX4_slipped_14 rfl ⟨by decide, by decide⟩ ?_
    refine V.iadd (pc := 15) ((((L3 v + 1) : Nat) : Int)) dX4_slipped_15 (addN (a := L3 v) (b := 1) (by omega)) ?_
    refine V.callS (pc := 16) (e1 := eX7_firstOf) 1 [vI (((L3 v + 1) : Nat) : Int)] [] mfX7_firstOf slX7_firstOf mlX4_30 dX4_slipped_16 rfl rfl (Nat.le_of_ble_eq_true rfl) ⟨by decide, by decide, by decide, by decide⟩ ?_
    refine c_X7_firstOf K hi hl (L3 v + 1) (by omega) _ ?_
    refine V.qI (pc := 16) rfl rfl ?_
    refine V.iload_n (pc := 19) 2 dX4_slipped_19 rfl ?_
    refine V.iload (pc := 20) 0 dX4_slipped_20 rfl ?_
    refine V.idiv (pc := 22) ((((v - f3 (L3 v)) / (p3 (L3 v - p)) : Nat) : Int)) dX4_slipped_22 (by omega) (dN (a := (v - f3 (L3 v))) (b := (p3 (L3 v - p))) (by omega) (by omega) (by omega)) (rI_n (by omega)) ?_
    refine V.iconst (pc := 23) (z := 3) dX4_slipped_23 rfl ⟨by decide, by decide⟩ ?_
    refine V.imul (pc := 24) (((((v - f3 (L3 v)) / (p3 (L3 v - p))) * 3 : Nat) : Int)) dX4_slipped_24 (mulN (a := (v - f3 (L3 v)) / (p3 (L3 v - p))) (b := 3) (by omega)) ?_
    refine V.iload (pc := 25) 5 dX4_slipped_25 rfl ?_
    refine V.iadd (pc := 27) ((((((v - f3 (L3 v)) / (p3 (L3 v - p))) * 3 + w) : Nat) : Int)) dX4_slipped_27 (addN (a := ((v - f3 (L3 v)) / (p3 (L3 v - p))) * 3) (b := w) (by omega)) ?_
    refine V.iload (pc := 28) 0 dX4_slipped_28 rfl ?_
    refine V.imul (pc := 30) ((((((v - f3 (L3 v)) / (p3 (L3 v - p))) * 3 + w) * (p3 (L3 v - p)) : Nat) : Int)) dX4_slipped_30 (mulN (a := (((v - f3 (L3 v)) / (p3 (L3 v - p))) * 3 + w)) (b := p3 (L3 v - p)) (by omega)) ?_
    refine V.iadd (pc := 31) ((((f3 (L3 v + 1) + (((v - f3 (L3 v)) / (p3 (L3 v - p))) * 3 + w) * (p3 (L3 v - p))) : Nat) : Int)) dX4_slipped_31 (addN (a := f3 (L3 v + 1)) (b := (((v - f3 (L3 v)) / (p3 (L3 v - p))) * 3 + w) * (p3 (L3 v - p))) (by omega)) ?_
    refine V.iload_n (pc := 32) 2 dX4_slipped_32 rfl ?_
    refine V.iload (pc := 33) 0 dX4_slipped_33 rfl ?_
    refine V.irem (pc := 35) ((((v - f3 (L3 v)) % (p3 (L3 v - p)) : Nat) : Int)) dX4_slipped_35 (by omega) (mN (a := (v - f3 (L3 v))) (b := (p3 (L3 v - p))) (by omega) (by omega) (by omega)) (rI_n (by omega)) ?_
    refine V.iadd (pc := 36) (((((f3 (L3 v + 1) + (((v - f3 (L3 v)) / (p3 (L3 v - p))) * 3 + w) * (p3 (L3 v - p))) + (v - f3 (L3 v)) % (p3 (L3 v - p))) : Nat) : Int)) dX4_slipped_36 (addN (a := (f3 (L3 v + 1) + (((v - f3 (L3 v)) / (p3 (L3 v - p))) * 3 + w) * (p3 (L3 v - p)))) (b := (v - f3 (L3 v)) % (p3 (L3 v - p))) (by omega)) ?_
    refine V.iret (pc := 37) (z := ((((f3 (L3 v + 1) + (((v - f3 (L3 v)) / (p3 (L3 v - p))) * 3 + w) * (p3 (L3 v - p))) + (v - f3 (L3 v)) % (p3 (L3 v - p))) : Nat) : Int)) dX4_slipped_37 rfl ?_
    rw [show sp s v p w = _ by unfold sp; rw [if_pos (by omega)]] at hq
    exact hq

set_option maxRecDepth 100000 in
theorem c_X4_addUnlike (hi hl : HI) (r2 : Nat → Int) (b v x : Nat) (l : List Nat) (h : SLI r2 (hi 2) (hi 1) b l) (hb : b + (addU v l x).length ≤ 5712) (Q : QT) (hq : ∀ g f, SLI r2 f g b (addU v l x) → Q none KS (upR (upR hi 1 g) 2 f) hl) : Con eX4_addUnlike [vR 1, vI (b : Nat), vI (v : Nat), vI (x : Nat)] KS hi hl Q := by
  refine Con.ofV (by decide +kernel) (Nat.le_of_ble_eq_true rfl) ?_
  show V eX4_addUnlike none KS 0 [(0, vR 1), (1, vI ((b : Nat) : Int)), (2, vI ((v : Nat) : Int)), (3, vI ((x : Nat) : Int))] [] hi hl 0 0 Q
  refine V.hieq (hi' := (upR (upR hi 1 (hi 1)) 2 (hi 2))) (by rw [upR_id, upR_id]) ?_
  have hlen := addU_len v l x
  have hu := h.1
  refine V.iload_n (pc := 0) 3 dX4_addUnlike_0 rfl ?_
  refine V.iload_n (pc := 1) 2 dX4_addUnlike_1 rfl ?_
  refine V.icmp_eq (pc := 2) 17 dX4_addUnlike_2 (by decide) (fun h2 => ?_) (fun h2 => ?_)
  · skip
    refine V.vret (pc := 17) dX4_addUnlike_17 rfl ?_
    by_cases hm : x = v ∨ x ∈ l
    · exact hq _ _ (by rw [addU_same hm]; exact h)
    · exfalso
      have hxv : ¬ x = v := fun q => hm (Or.inl q)
      have e : (addU v l x).length = l.length + 1 := by unfold addU; rw [if_neg hm]; simp
      omega
  · skip
    refine V.aload_n (pc := 5) 0 dX4_addUnlike_5 rfl ?_
    refine V.gi (pc := 6) 4 2 ((b + l.length : Nat) : Int) flX4_18 dX4_addUnlike_6 (rfl) (by decide) (by decide) rfl (h.1) ?_
    refine V.aload_n (pc := 9) 0 dX4_addUnlike_9 rfl ?_
    refine V.gr (pc := 10) 4 0 2 flX4_9 dX4_addUnlike_10 (rfl) (by decide) (by decide) rfl (rfl) ?_
    refine V.alen (pc := 13) (len := 5712) (t := 0) dX4_addUnlike_13 (rfl) (by decide) (by decide) ?_
    refine V.icmp_lt (pc := 14) 18 dX4_addUnlike_14 (by decide) (fun h14 => ?_) (fun h14 => ?_)
    · skip
      refine V.iload_n (pc := 18) 1 dX4_addUnlike_18 rfl ?_
      refine V.istore (pc := 19) (i := 4) dX4_addUnlike_19 (by decide) (ls' := [(4, vI ((b : Nat) : Int)), (0, vR 1), (1, vI ((b : Nat) : Int)), (2, vI ((v : Nat) : Int)), (3, vI ((x : Nat) : Int))]) rfl ?_
      have lp21 : ∀ (fu21 : Nat) (k : Nat), (b ≤ k) → (k ≤ b + l.length) → (∀ i, i < k - b → l.getD i 0 ≠ x) → b + l.length - k < fu21 → V eX4_addUnlike none KS 21 [(0, vR 1), (2, vI ((v : Nat) : Int)), (3, vI ((x : Nat) : Int)), (4, vI ((k : Nat) : Int))] [] (upR (upR hi 1 (hi 1)) 2 (hi 2)) hl 0 0 Q := by
        intro fu21
        induction fu21 with
        | zero => intro k hk1 hk2 hk3 hm21; exact absurd hm21 (Nat.not_lt_zero _)
        | succ fu21 ih21 =>
          intro k hk1 hk2 hk3 hm21
          refine V.iload (pc := 21) 3 dX4_addUnlike_21 rfl ?_
          refine V.aload_n (pc := 23) 0 dX4_addUnlike_23 rfl ?_
          refine V.gi (pc := 24) 4 2 ((b + l.length : Nat) : Int) flX4_18 dX4_addUnlike_24 (rfl) (by decide) (by decide) rfl (h.1) ?_
          refine V.icmp_ge (pc := 27) 48 dX4_addUnlike_27 (by decide) (fun h27 => ?_) (fun h27 => ?_)
          · skip
            refine V.aload_n (pc := 48) 0 dX4_addUnlike_48 rfl ?_
            refine V.gr (pc := 49) 4 0 2 flX4_9 dX4_addUnlike_49 (rfl) (by decide) (by decide) rfl (rfl) ?_
            refine V.aload_n (pc := 52) 0 dX4_addUnlike_52 rfl ?_
            refine V.gi (pc := 53) 4 2 ((b + l.length : Nat) : Int) flX4_18 dX4_addUnlike_53 (rfl) (by decide) (by decide) rfl (h.1) ?_
            refine V.iload_n (pc := 56) 2 dX4_addUnlike_56 rfl ?_
            have hm : ¬ (x = v ∨ x ∈ l) := fun hc => by
              rcases hc with hc | hc
              · omega
              · exact not_mem_of (fun i hi => hk3 i (by omega)) hc
            have e9 : (addU v l x).length = l.length + 1 := by unfold addU; rw [if_neg hm]; simp
            refine V.is (pc := 57) (len := 5712) (hi' := (upR (upR hi 1 (hi 1)) 2 (updF (hi 2) (b + l.length) ((x : Nat) : Int)))) (b + l.length) dX4_addUnlike_57 (rfl) (rfl) (by omega) u1 ?_
            refine V.aload_n (pc := 58) 0 dX4_addUnlike_58 rfl ?_
            refine V.dup (pc := 59) dX4_addUnlike_59 rfl ?_
            refine V.gi (pc := 60) 4 2 ((b + l.length : Nat) : Int) flX4_18 dX4_addUnlike_60 (rfl) (by decide) (by decide) rfl (h.1) ?_
            refine V.iconst (pc := 63) (z := 1) dX4_addUnlike_63 rfl ⟨by decide, by decide⟩ ?_
            refine V.iadd (pc := 64) ((((b + l.length + 1) : Nat) : Int)) dX4_addUnlike_64 (addN (a := b + l.length) (b := 1) (by omega)) ?_
            refine V.pi (pc := 65) (hi' := (upR (upR hi 1 (updF (hi 1) 2 (((b + l.length + 1) : Nat) : Int))) 2 (updF (hi 2) (b + l.length) ((x : Nat) : Int)))) 4 2 flX4_18 dX4_addUnlike_65 (rfl) (by decide) (by decide) rfl rfl (us (by decide) u1) ?_
            refine V.vret (pc := 68) dX4_addUnlike_68 rfl ?_
            exact hq _ _ (SLI_add h hm)
          · skip
            refine V.aload_n (pc := 30) 0 dX4_addUnlike_30 rfl ?_
            refine V.gr (pc := 31) 4 0 2 flX4_9 dX4_addUnlike_31 (rfl) (by decide) (by decide) rfl (rfl) ?_
            refine V.iload (pc := 34) 3 dX4_addUnlike_34 rfl ?_
            refine V.ia (pc := 36) (len := 5712) k ((l.getD (k - b) 0 : Nat) : Int) dX4_addUnlike_36 (rfl) (rfl) (by omega) (by have := h.2.2 (k - b) (by omega); rw [show b + (k - b) = k by omega] at this; exact this) ?_
            refine V.iload_n (pc := 37) 2 dX4_addUnlike_37 rfl ?_
            refine V.icmp_ne (pc := 38) 42 dX4_addUnlike_38 (by decide) (fun h38 => ?_) (fun h38 => ?_)
            · skip
              refine V.iinc (pc := 42) (r := ((k + 1 : Nat) : Int)) 3 dX4_addUnlike_42 rfl (w32_of (by omega) (by omega) (by omega)) (by decide) (ls' := [(4, vI ((k + 1 : Nat) : Int)), (0, vR 1), (2, vI ((v : Nat) : Int)), (3, vI ((x : Nat) : Int))]) rfl ?_
              refine V.goto (pc := 45) 21 dX4_addUnlike_45 (by decide) ?_
              refine V.locs [1, 2, 3, 0] (ls' := [(0, vR 1), (2, vI ((v : Nat) : Int)), (3, vI ((x : Nat) : Int)), (4, vI ((k + 1 : Nat) : Int))]) rfl ?_
              exact ih21 (k + 1) (by omega) (by omega) (fun i hi => by
                by_cases e : i = k - b
                · rw [e]; exact fun q => h38 (by rw [q])
                · exact hk3 i (by omega)) (by omega)
            · skip
              refine V.vret (pc := 41) dX4_addUnlike_41 rfl ?_
              have hm : x ∈ l := mem_of_at (show k - b < l.length by omega) (by omega)
              exact hq _ _ (by rw [addU_same (Or.inr hm)]; exact h)
      refine V.locs [1, 3, 4, 0] (ls' := [(0, vR 1), (2, vI ((v : Nat) : Int)), (3, vI ((x : Nat) : Int)), (4, vI ((b : Nat) : Int))]) rfl ?_
      exact lp21 _ b (by omega) (by omega) (fun i hi => absurd hi (by omega)) (Nat.lt_succ_self _)
    · skip
      refine V.vret (pc := 17) dX4_addUnlike_17 rfl ?_
      by_cases hm : x = v ∨ x ∈ l
      · exact hq _ _ (by rw [addU_same hm]; exact h)
      · exfalso
        have hxv : ¬ x = v := fun q => hm (Or.inl q)
        have e : (addU v l x).length = l.length + 1 := by unfold addU; rw [if_neg hm]; simp
        omega

set_option maxRecDepth 100000 in
theorem c_X4_list (hi hl : HI) (r2 : Nat → Int) (b s v : Nat) (hs1 : 1 ≤ s) (hs : s ≤ 3) (hv : v < 364) (h : SLI r2 (hi 2) (hi 1) b []) (hb : b + slN s v ≤ 5712) (Q : QT) (hq : ∀ g f, SLI r2 f g b (slL s v) → Q none KS (upR (upR hi 1 g) 2 f) hl) : Con eX4_list [vR 1, vI (s : Nat), vI (v : Nat), vI (b : Nat)] KS hi hl Q := by
  refine Con.ofV (by decide +kernel) (Nat.le_of_ble_eq_true rfl) ?_
  show V eX4_list none KS 0 [(0, vR 1), (1, vI ((s : Nat) : Int)), (2, vI ((v : Nat) : Int)), (3, vI ((b : Nat) : Int))] [] hi hl 0 0 Q
  refine V.hieq (hi' := (upR (upR hi 1 (hi 1)) 2 (hi 2))) (by rw [upR_id, upR_id]) ?_
  have hL := L3_le v
  obtain ⟨hf1, hf2, hf3⟩ := L3_f hv
  have esl : slL s v = slP s v (spP s v) := by unfold slL; rw [if_pos ⟨hs1, hs⟩]
  have hsn : slN s v = (slP s v (spP s v)).length := by unfold slN; rw [esl]
  rw [esl] at hq
  refine V.iload_n (pc := 0) 2 dX4_list_0 rfl ?_
  refine V.callS (pc := 1) (e1 := eX7_lengthOf) 1 [vI ((v : Nat) : Int)] [] mfX7_lengthOf slX7_lengthOf mlX4_26 dX4_list_1 rfl rfl (Nat.le_of_ble_eq_true rfl) ⟨by decide, by decide, by decide, by decide⟩ ?_
  refine c_X7_lengthOf KS (upR (upR hi 1 (hi 1)) 2 (hi 2)) hl v (by omega) _ ?_
  refine V.qI (pc := 1) rfl rfl ?_
  refine V.istore (pc := 4) (i := 4) dX4_list_4 (by decide) (ls' := [(4, vI ((L3 v : Nat) : Int)), (0, vR 1), (1, vI ((s : Nat) : Int)), (2, vI ((v : Nat) : Int)), (3, vI ((b : Nat) : Int))]) rfl ?_
  have ct46 : ∀ (np : Nat) (nw : Nat), (np = spP s v) → (nw = spW s) → V eX4_list none KS 46 [(0, vR 1), (1, vI ((s : Nat) : Int)), (2, vI ((v : Nat) : Int)), (3, vI ((b : Nat) : Int)), (4, vI ((L3 v : Nat) : Int)), (5, vI ((np : Nat) : Int)), (6, vI ((nw : Nat) : Int))] [] (upR (upR hi 1 (hi 1)) 2 (hi 2)) hl 0 0 Q := by
    intro np nw hnp hnw
    have hP5 : np ≤ 5 := by rw [hnp]; unfold spP; split <;> (try split) <;> omega
    have hW3 : nw ≤ 3 := by rw [hnw]; unfold spW; split <;> omega
    refine V.iconst (pc := 46) (z := 0) dX4_list_46 rfl ⟨by decide, by decide⟩ ?_
    refine V.istore (pc := 47) (i := 7) dX4_list_47 (by decide) (ls' := [(7, vI 0), (0, vR 1), (1, vI ((s : Nat) : Int)), (2, vI ((v : Nat) : Int)), (3, vI ((b : Nat) : Int)), (4, vI ((L3 v : Nat) : Int)), (5, vI ((np : Nat) : Int)), (6, vI ((nw : Nat) : Int))]) rfl ?_
    have lp49 : ∀ (fu49 : Nat) (p : Nat) (g : Nat → Int) (f : Nat → Int), (p ≤ np) → (SLI r2 f g b (slP s v p)) → np - p < fu49 → V eX4_list none KS 49 [(0, vR 1), (1, vI ((s : Nat) : Int)), (2, vI ((v : Nat) : Int)), (3, vI ((b : Nat) : Int)), (4, vI ((L3 v : Nat) : Int)), (5, vI ((np : Nat) : Int)), (6, vI ((nw : Nat) : Int)), (7, vI ((p : Nat) : Int))] [] (upR (upR hi 1 g) 2 f) hl 0 0 Q := by
      intro fu49
      induction fu49 with
      | zero => intro p g f hp hI hm49; exact absurd hm49 (Nat.not_lt_zero _)
      | succ fu49 ih49 =>
        intro p g f hp hI hm49
        refine V.iload (pc := 49) 7 dX4_list_49 rfl ?_
        refine V.iload (pc := 51) 5 dX4_list_51 rfl ?_
        refine V.icmp_ge (pc := 53) 101 dX4_list_53 (by decide) (fun h53 => ?_) (fun h53 => ?_)
        · skip
          refine V.vret (pc := 101) dX4_list_101 rfl ?_
          exact hq _ _ (by have e : p = spP s v := (by omega); rw [← e]; exact hI)
        · skip
          refine V.iconst (pc := 56) (z := 0) dX4_list_56 rfl ⟨by decide, by decide⟩ ?_
          refine V.istore (pc := 57) (i := 8) dX4_list_57 (by decide) (ls' := [(8, vI 0), (0, vR 1), (1, vI ((s : Nat) : Int)), (2, vI ((v : Nat) : Int)), (3, vI ((b : Nat) : Int)), (4, vI ((L3 v : Nat) : Int)), (5, vI ((np : Nat) : Int)), (6, vI ((nw : Nat) : Int)), (7, vI ((p : Nat) : Int))]) rfl ?_
          have lp59 : ∀ (fu59 : Nat) (w : Nat) (g2 : Nat → Int) (f2 : Nat → Int), (w ≤ nw) → (SLI r2 f2 g2 b (slW s v p (slP s v p) w)) → nw - w < fu59 → V eX4_list none KS 59 [(0, vR 1), (1, vI ((s : Nat) : Int)), (2, vI ((v : Nat) : Int)), (3, vI ((b : Nat) : Int)), (4, vI ((L3 v : Nat) : Int)), (5, vI ((np : Nat) : Int)), (6, vI ((nw : Nat) : Int)), (7, vI ((p : Nat) : Int)), (8, vI ((w : Nat) : Int))] [] (upR (upR hi 1 g2) 2 f2) hl 0 0 Q := by
            intro fu59
            induction fu59 with
            | zero => intro w g2 f2 hw hJ hm59; exact absurd hm59 (Nat.not_lt_zero _)
            | succ fu59 ih59 =>
              intro w g2 f2 hw hJ hm59
              refine V.iload (pc := 59) 8 dX4_list_59 rfl ?_
              refine V.iload (pc := 61) 6 dX4_list_61 rfl ?_
              refine V.icmp_ge (pc := 63) 95 dX4_list_63 (by decide) (fun h63 => ?_) (fun h63 => ?_)
              · skip
                refine V.iinc (pc := 95) (r := ((p + 1 : Nat) : Int)) 7 dX4_list_95 rfl (w32_of (by omega) (by omega) (by omega)) (by decide) (ls' := [(7, vI ((p + 1 : Nat) : Int)), (0, vR 1), (1, vI ((s : Nat) : Int)), (2, vI ((v : Nat) : Int)), (3, vI ((b : Nat) : Int)), (4, vI ((L3 v : Nat) : Int)), (5, vI ((np : Nat) : Int)), (6, vI ((nw : Nat) : Int)), (8, vI ((w : Nat) : Int))]) rfl ?_
                refine V.goto (pc := 98) 49 dX4_list_98 (by decide) ?_
                refine V.locs [1, 2, 3, 4, 5, 6, 7, 0] (ls' := [(0, vR 1), (1, vI ((s : Nat) : Int)), (2, vI ((v : Nat) : Int)), (3, vI ((b : Nat) : Int)), (4, vI ((L3 v : Nat) : Int)), (5, vI ((np : Nat) : Int)), (6, vI ((nw : Nat) : Int)), (7, vI ((p + 1 : Nat) : Int))]) rfl ?_
                exact ih49 (p + 1) g2 f2 (by omega) (by have e : w = spW s := (by omega); subst e; exact hJ) (by omega)
              · skip
                refine V.aload_n (pc := 66) 0 dX4_list_66 rfl ?_
                refine V.iload_n (pc := 67) 3 dX4_list_67 rfl ?_
                refine V.iload_n (pc := 68) 2 dX4_list_68 rfl ?_
                refine V.iload_n (pc := 69) 1 dX4_list_69 rfl ?_
                refine V.iload_n (pc := 70) 2 dX4_list_70 rfl ?_
                refine V.iload (pc := 71) 4 dX4_list_71 rfl ?_
                refine V.callS (pc := 73) (e1 := eX7_firstOf) 1 [vI ((L3 v : Nat) : Int)] [vI ((v : Nat) : Int), vI ((s : Nat) : Int), vI ((v : Nat) : Int), vI ((b : Nat) : Int), vR 1] mfX7_firstOf slX7_firstOf mlX4_30 dX4_list_73 rfl rfl (Nat.le_of_ble_eq_true rfl) ⟨by decide, by decide, by decide, by decide⟩ ?_
                refine c_X7_firstOf KS (upR (upR hi 1 g2) 2 f2) hl (L3 v) (by omega) _ ?_
                refine V.qI (pc := 73) rfl rfl ?_
                refine V.isub (pc := 76) (((v - f3 (L3 v) : Nat) : Int)) dX4_list_76 (subN (a := v) (b := f3 (L3 v)) (by omega) (by omega)) ?_
                refine V.iload (pc := 77) 4 dX4_list_77 rfl ?_
                refine V.iload (pc := 79) 7 dX4_list_79 rfl ?_
                refine V.iload (pc := 81) 8 dX4_list_81 rfl ?_
                refine V.callS (pc := 83) (e1 := eX4_slipped) 5 [vI ((s : Nat) : Int), vI ((v - f3 (L3 v) : Nat) : Int), vI ((L3 v : Nat) : Int), vI ((p : Nat) : Int), vI ((w : Nat) : Int)] [vI ((v : Nat) : Int), vI ((b : Nat) : Int), vR 1] mfX4_slipped slX4_slipped mlX4_33 dX4_list_83 rfl rfl (Nat.le_of_ble_eq_true rfl) ⟨by decide, by decide, by decide, by decide⟩ ?_
                refine c_X4_slipped KS (upR (upR hi 1 g2) 2 f2) hl s v p w hs1 hs hv (by omega) (by omega) _ ?_
                refine V.qI (pc := 83) rfl rfl ?_
                refine V.callV (pc := 86) (e1 := eX4_addUnlike) (o := 1) (c := 4) 3 [vI ((b : Nat) : Int), vI ((v : Nat) : Int), vI ((sp s v p w : Nat) : Int)] [] mfX4_addUnlike slX4_addUnlike mlX4_37 dX4_list_86 (rfl) (by decide) rfl rfl rfl (Nat.le_of_ble_eq_true rfl) ⟨by decide, by decide, by decide, by decide⟩ ?_
                refine c_X4_addUnlike (upR (upR hi 1 g2) 2 f2) hl r2 b v (sp s v p w) (slW s v p (slP s v p) w) (hJ) (by have k1 := slW_len s v p (slP s v p) (show w + 1 ≤ spW s by omega); have k2 := slP_len s v (show p + 1 ≤ spP s v by omega); have k3 : (addU v (slW s v p (slP s v p) w) (sp s v p w)).length ≤ (slP s v (p + 1)).length := k1; omega) _ (fun g3 f3 hA => ?_)
                refine V.qV (pc := 86) rfl rfl ?_
                refine V.hieq (hi' := (upR (upR hi 1 g3) 2 f3)) ((upR_c (rs (by decide) r1)).trans r1) ?_
                refine V.iinc (pc := 89) (r := ((w + 1 : Nat) : Int)) 8 dX4_list_89 rfl (w32_of (by omega) (by omega) (by omega)) (by decide) (ls' := [(8, vI ((w + 1 : Nat) : Int)), (0, vR 1), (1, vI ((s : Nat) : Int)), (2, vI ((v : Nat) : Int)), (3, vI ((b : Nat) : Int)), (4, vI ((L3 v : Nat) : Int)), (5, vI ((np : Nat) : Int)), (6, vI ((nw : Nat) : Int)), (7, vI ((p : Nat) : Int))]) rfl ?_
                refine V.goto (pc := 92) 59 dX4_list_92 (by decide) ?_
                refine V.locs [1, 2, 3, 4, 5, 6, 7, 8, 0] (ls' := [(0, vR 1), (1, vI ((s : Nat) : Int)), (2, vI ((v : Nat) : Int)), (3, vI ((b : Nat) : Int)), (4, vI ((L3 v : Nat) : Int)), (5, vI ((np : Nat) : Int)), (6, vI ((nw : Nat) : Int)), (7, vI ((p : Nat) : Int)), (8, vI ((w + 1 : Nat) : Int))]) rfl ?_
                exact ih59 (w + 1) g3 f3 (by omega) (hA) (by omega)
          refine V.locs [1, 2, 3, 4, 5, 6, 7, 8, 0] (ls' := [(0, vR 1), (1, vI ((s : Nat) : Int)), (2, vI ((v : Nat) : Int)), (3, vI ((b : Nat) : Int)), (4, vI ((L3 v : Nat) : Int)), (5, vI ((np : Nat) : Int)), (6, vI ((nw : Nat) : Int)), (7, vI ((p : Nat) : Int)), (8, vI 0)]) rfl ?_
          exact lp59 _ 0 g f (by omega) (hI) (Nat.lt_succ_self _)
    refine V.locs [1, 2, 3, 4, 5, 6, 7, 0] (ls' := [(0, vR 1), (1, vI ((s : Nat) : Int)), (2, vI ((v : Nat) : Int)), (3, vI ((b : Nat) : Int)), (4, vI ((L3 v : Nat) : Int)), (5, vI ((np : Nat) : Int)), (6, vI ((nw : Nat) : Int)), (7, vI 0)]) rfl ?_
    exact lp49 _ 0 (hi 1) (hi 2) (by omega) (h) (Nat.lt_succ_self _)
  refine V.iload_n (pc := 6) 2 dX4_list_6 rfl ?_
  refine V.iconst (pc := 7) (z := 3) dX4_list_7 rfl ⟨by decide, by decide⟩ ?_
  refine V.icmp_ne (pc := 8) 18 dX4_list_8 (by decide) (fun h8 => ?_) (fun h8 => ?_)
  · skip
    refine V.iload_n (pc := 18) 2 dX4_list_18 rfl ?_
    refine V.iconst (pc := 19) (z := 3) dX4_list_19 rfl ⟨by decide, by decide⟩ ?_
    refine V.icmp_ne (pc := 20) 30 dX4_list_20 (by decide) (fun h20 => ?_) (fun h20 => ?_)
    · skip
      refine V.iload (pc := 30) 0 dX4_list_30 rfl ?_
      refine V.istore (pc := 32) (i := 5) dX4_list_32 (by decide) (ls' := [(5, vI ((L3 v : Nat) : Int)), (4, vI ((L3 v : Nat) : Int)), (0, vR 1), (1, vI ((s : Nat) : Int)), (2, vI ((v : Nat) : Int)), (3, vI ((b : Nat) : Int))]) rfl ?_
      refine V.iload_n (pc := 34) 3 dX4_list_34 rfl ?_
      refine V.iconst (pc := 35) (z := 1) dX4_list_35 rfl ⟨by decide, by decide⟩ ?_
      refine V.icmp_ne (pc := 36) 43 dX4_list_36 (by decide) (fun h36 => ?_) (fun h36 => ?_)
      · skip
        refine V.iconst (pc := 43) (z := 3) dX4_list_43 rfl ⟨by decide, by decide⟩ ?_
        refine V.istore (pc := 44) (i := 6) dX4_list_44 (by decide) (ls' := [(6, vI 3), (5, vI ((L3 v : Nat) : Int)), (4, vI ((L3 v : Nat) : Int)), (0, vR 1), (1, vI ((s : Nat) : Int)), (2, vI ((v : Nat) : Int)), (3, vI ((b : Nat) : Int))]) rfl ?_
        refine V.locs [3, 4, 5, 6, 2, 1, 0] (ls' := [(0, vR 1), (1, vI ((s : Nat) : Int)), (2, vI ((v : Nat) : Int)), (3, vI ((b : Nat) : Int)), (4, vI ((L3 v : Nat) : Int)), (5, vI ((L3 v : Nat) : Int)), (6, vI 3)]) rfl ?_
        exact ct46 (L3 v) 3 (by unfold spP; split <;> (try split) <;> omega) (by unfold spW; split <;> omega)
      · skip
        refine V.iconst (pc := 39) (z := 1) dX4_list_39 rfl ⟨by decide, by decide⟩ ?_
        refine V.goto (pc := 40) 44 dX4_list_40 (by decide) ?_
        refine V.istore (pc := 44) (i := 6) dX4_list_44 (by decide) (ls' := [(6, vI 1), (5, vI ((L3 v : Nat) : Int)), (4, vI ((L3 v : Nat) : Int)), (0, vR 1), (1, vI ((s : Nat) : Int)), (2, vI ((v : Nat) : Int)), (3, vI ((b : Nat) : Int))]) rfl ?_
        refine V.locs [3, 4, 5, 6, 2, 1, 0] (ls' := [(0, vR 1), (1, vI ((s : Nat) : Int)), (2, vI ((v : Nat) : Int)), (3, vI ((b : Nat) : Int)), (4, vI ((L3 v : Nat) : Int)), (5, vI ((L3 v : Nat) : Int)), (6, vI 1)]) rfl ?_
        exact ct46 (L3 v) 1 (by unfold spP; split <;> (try split) <;> omega) (by unfold spW; split <;> omega)
    · skip
      refine V.iload (pc := 23) 0 dX4_list_23 rfl ?_
      refine V.iconst (pc := 25) (z := 1) dX4_list_25 rfl ⟨by decide, by decide⟩ ?_
      refine V.iadd (pc := 26) ((((L3 v + 1) : Nat) : Int)) dX4_list_26 (addN (a := L3 v) (b := 1) (by omega)) ?_
      refine V.goto (pc := 27) 32 dX4_list_27 (by decide) ?_
      refine V.istore (pc := 32) (i := 5) dX4_list_32 (by decide) (ls' := [(5, vI (((L3 v + 1) : Nat) : Int)), (4, vI ((L3 v : Nat) : Int)), (0, vR 1), (1, vI ((s : Nat) : Int)), (2, vI ((v : Nat) : Int)), (3, vI ((b : Nat) : Int))]) rfl ?_
      refine V.iload_n (pc := 34) 3 dX4_list_34 rfl ?_
      refine V.iconst (pc := 35) (z := 1) dX4_list_35 rfl ⟨by decide, by decide⟩ ?_
      refine V.icmp_ne (pc := 36) 43 dX4_list_36 (by decide) (fun h36 => ?_) (fun h36 => ?_)
      · skip
        refine V.iconst (pc := 43) (z := 3) dX4_list_43 rfl ⟨by decide, by decide⟩ ?_
        refine V.istore (pc := 44) (i := 6) dX4_list_44 (by decide) (ls' := [(6, vI 3), (5, vI (((L3 v + 1) : Nat) : Int)), (4, vI ((L3 v : Nat) : Int)), (0, vR 1), (1, vI ((s : Nat) : Int)), (2, vI ((v : Nat) : Int)), (3, vI ((b : Nat) : Int))]) rfl ?_
        refine V.locs [3, 4, 5, 6, 2, 1, 0] (ls' := [(0, vR 1), (1, vI ((s : Nat) : Int)), (2, vI ((v : Nat) : Int)), (3, vI ((b : Nat) : Int)), (4, vI ((L3 v : Nat) : Int)), (5, vI (((L3 v + 1) : Nat) : Int)), (6, vI 3)]) rfl ?_
        exact ct46 (L3 v + 1) 3 (by unfold spP; split <;> (try split) <;> omega) (by unfold spW; split <;> omega)
      · skip
        refine V.iconst (pc := 39) (z := 1) dX4_list_39 rfl ⟨by decide, by decide⟩ ?_
        refine V.goto (pc := 40) 44 dX4_list_40 (by decide) ?_
        refine V.istore (pc := 44) (i := 6) dX4_list_44 (by decide) (ls' := [(6, vI 1), (5, vI (((L3 v + 1) : Nat) : Int)), (4, vI ((L3 v : Nat) : Int)), (0, vR 1), (1, vI ((s : Nat) : Int)), (2, vI ((v : Nat) : Int)), (3, vI ((b : Nat) : Int))]) rfl ?_
        refine V.locs [3, 4, 5, 6, 2, 1, 0] (ls' := [(0, vR 1), (1, vI ((s : Nat) : Int)), (2, vI ((v : Nat) : Int)), (3, vI ((b : Nat) : Int)), (4, vI ((L3 v : Nat) : Int)), (5, vI (((L3 v + 1) : Nat) : Int)), (6, vI 1)]) rfl ?_
        exact ct46 (L3 v + 1) 1 (by unfold spP; split <;> (try split) <;> omega) (by unfold spW; split <;> omega)
  · skip
    refine V.iload (pc := 11) 0 dX4_list_11 rfl ?_
    refine V.iconst (pc := 13) (z := 5) dX4_list_13 rfl ⟨by decide, by decide⟩ ?_
    refine V.icmp_ne (pc := 14) 18 dX4_list_14 (by decide) (fun h14 => ?_) (fun h14 => ?_)
    · skip
      refine V.iload_n (pc := 18) 2 dX4_list_18 rfl ?_
      refine V.iconst (pc := 19) (z := 3) dX4_list_19 rfl ⟨by decide, by decide⟩ ?_
      refine V.icmp_ne (pc := 20) 30 dX4_list_20 (by decide) (fun h20 => ?_) (fun h20 => ?_)
      · skip
        refine V.iload (pc := 30) 0 dX4_list_30 rfl ?_
        refine V.istore (pc := 32) (i := 5) dX4_list_32 (by decide) (ls' := [(5, vI ((L3 v : Nat) : Int)), (4, vI ((L3 v : Nat) : Int)), (0, vR 1), (1, vI ((s : Nat) : Int)), (2, vI ((v : Nat) : Int)), (3, vI ((b : Nat) : Int))]) rfl ?_
        refine V.iload_n (pc := 34) 3 dX4_list_34 rfl ?_
        refine V.iconst (pc := 35) (z := 1) dX4_list_35 rfl ⟨by decide, by decide⟩ ?_
        refine V.icmp_ne (pc := 36) 43 dX4_list_36 (by decide) (fun h36 => ?_) (fun h36 => ?_)
        · skip
          refine V.iconst (pc := 43) (z := 3) dX4_list_43 rfl ⟨by decide, by decide⟩ ?_
          refine V.istore (pc := 44) (i := 6) dX4_list_44 (by decide) (ls' := [(6, vI 3), (5, vI ((L3 v : Nat) : Int)), (4, vI ((L3 v : Nat) : Int)), (0, vR 1), (1, vI ((s : Nat) : Int)), (2, vI ((v : Nat) : Int)), (3, vI ((b : Nat) : Int))]) rfl ?_
          refine V.locs [3, 4, 5, 6, 2, 1, 0] (ls' := [(0, vR 1), (1, vI ((s : Nat) : Int)), (2, vI ((v : Nat) : Int)), (3, vI ((b : Nat) : Int)), (4, vI ((L3 v : Nat) : Int)), (5, vI ((L3 v : Nat) : Int)), (6, vI 3)]) rfl ?_
          exact ct46 (L3 v) 3 (by unfold spP; split <;> (try split) <;> omega) (by unfold spW; split <;> omega)
        · skip
          refine V.iconst (pc := 39) (z := 1) dX4_list_39 rfl ⟨by decide, by decide⟩ ?_
          refine V.goto (pc := 40) 44 dX4_list_40 (by decide) ?_
          refine V.istore (pc := 44) (i := 6) dX4_list_44 (by decide) (ls' := [(6, vI 1), (5, vI ((L3 v : Nat) : Int)), (4, vI ((L3 v : Nat) : Int)), (0, vR 1), (1, vI ((s : Nat) : Int)), (2, vI ((v : Nat) : Int)), (3, vI ((b : Nat) : Int))]) rfl ?_
          refine V.locs [3, 4, 5, 6, 2, 1, 0] (ls' := [(0, vR 1), (1, vI ((s : Nat) : Int)), (2, vI ((v : Nat) : Int)), (3, vI ((b : Nat) : Int)), (4, vI ((L3 v : Nat) : Int)), (5, vI ((L3 v : Nat) : Int)), (6, vI 1)]) rfl ?_
          exact ct46 (L3 v) 1 (by unfold spP; split <;> (try split) <;> omega) (by unfold spW; split <;> omega)
      · skip
        refine V.iload (pc := 23) 0 dX4_list_23 rfl ?_
        refine V.iconst (pc := 25) (z := 1) dX4_list_25 rfl ⟨by decide, by decide⟩ ?_
        refine V.iadd (pc := 26) ((((L3 v + 1) : Nat) : Int)) dX4_list_26 (addN (a := L3 v) (b := 1) (by omega)) ?_
        refine V.goto (pc := 27) 32 dX4_list_27 (by decide) ?_
        refine V.istore (pc := 32) (i := 5) dX4_list_32 (by decide) (ls' := [(5, vI (((L3 v + 1) : Nat) : Int)), (4, vI ((L3 v : Nat) : Int)), (0, vR 1), (1, vI ((s : Nat) : Int)), (2, vI ((v : Nat) : Int)), (3, vI ((b : Nat) : Int))]) rfl ?_
        refine V.iload_n (pc := 34) 3 dX4_list_34 rfl ?_
        refine V.iconst (pc := 35) (z := 1) dX4_list_35 rfl ⟨by decide, by decide⟩ ?_
        refine V.icmp_ne (pc := 36) 43 dX4_list_36 (by decide) (fun h36 => ?_) (fun h36 => ?_)
        · skip
          refine V.iconst (pc := 43) (z := 3) dX4_list_43 rfl ⟨by decide, by decide⟩ ?_
          refine V.istore (pc := 44) (i := 6) dX4_list_44 (by decide) (ls' := [(6, vI 3), (5, vI (((L3 v + 1) : Nat) : Int)), (4, vI ((L3 v : Nat) : Int)), (0, vR 1), (1, vI ((s : Nat) : Int)), (2, vI ((v : Nat) : Int)), (3, vI ((b : Nat) : Int))]) rfl ?_
          refine V.locs [3, 4, 5, 6, 2, 1, 0] (ls' := [(0, vR 1), (1, vI ((s : Nat) : Int)), (2, vI ((v : Nat) : Int)), (3, vI ((b : Nat) : Int)), (4, vI ((L3 v : Nat) : Int)), (5, vI (((L3 v + 1) : Nat) : Int)), (6, vI 3)]) rfl ?_
          exact ct46 (L3 v + 1) 3 (by unfold spP; split <;> (try split) <;> omega) (by unfold spW; split <;> omega)
        · skip
          refine V.iconst (pc := 39) (z := 1) dX4_list_39 rfl ⟨by decide, by decide⟩ ?_
          refine V.goto (pc := 40) 44 dX4_list_40 (by decide) ?_
          refine V.istore (pc := 44) (i := 6) dX4_list_44 (by decide) (ls' := [(6, vI 1), (5, vI (((L3 v + 1) : Nat) : Int)), (4, vI ((L3 v : Nat) : Int)), (0, vR 1), (1, vI ((s : Nat) : Int)), (2, vI ((v : Nat) : Int)), (3, vI ((b : Nat) : Int))]) rfl ?_
          refine V.locs [3, 4, 5, 6, 2, 1, 0] (ls' := [(0, vR 1), (1, vI ((s : Nat) : Int)), (2, vI ((v : Nat) : Int)), (3, vI ((b : Nat) : Int)), (4, vI ((L3 v : Nat) : Int)), (5, vI (((L3 v + 1) : Nat) : Int)), (6, vI 1)]) rfl ?_
          exact ct46 (L3 v + 1) 1 (by unfold spP; split <;> (try split) <;> omega) (by unfold spW; split <;> omega)
    · skip
      refine V.vret (pc := 17) dX4_list_17 rfl ?_
      exact hq _ _ (by have e0 : spP s v = 0 := by { unfold spP; rw [if_pos (by omega), if_pos (by omega)] }; rw [e0]; exact h)

set_option maxRecDepth 100000 in
theorem c_X4_init (Q : QT) (hq : ∀ g f2 f3', TB f2 f3' → Q none KS (upR (upR (upR z0H 3 f3') 1 g) 2 f2) z0H) : Con eX4_init [vR 1] ([.inr 7, .inr 4], z0R) z0H z0H Q := by
  refine Con.ofV (by decide +kernel) (Nat.le_of_ble_eq_true rfl) ?_
  show V eX4_init none ([.inr 7, .inr 4], z0R) 0 [(0, vR 1)] [] z0H z0H 0 0 Q
  refine V.hieq (hi' := (upR (upR (upR z0H 3 (z0H 3)) 1 (z0H 1)) 2 (z0H 2))) (by rw [upR_id, upR_id, upR_id]) ?_
  refine V.aload_n (pc := 0) 0 dX4_init_0 rfl ?_
  refine V.objI (pc := 1) [] moX4_3 ob_in ob_cd dX4_init_1 rfl (by decide) (by decide) ?_
  refine V.aload_n (pc := 4) 0 dX4_init_4 rfl ?_
  refine V.sipush (pc := 5) (z := 5712) dX4_init_5 (by decide +kernel) ⟨by decide, by decide⟩ ?_
  refine V.newarr (pc := 8) 0 5712 ac0 dX4_init_8 (by decide) rfl (by decide) (fun j => ⟨rfl, rfl, rfl⟩) (by decide) (by decide) (by decide) ?_
  show V eX4_init none ([.inr 7, .inr 4, .inl (0, 5712)], z0R) 10 [(0, vR 1)] [vR 2, vR 1] (upR (upR (upR z0H 3 (z0H 3)) 1 (z0H 1)) 2 (z0H 2)) z0H 1 5712 Q
  refine V.putR (pc := 10) (t := 2) (c := 4) (f := 0) inU ffX4_9 dX4_init_10 (rfl) (by decide) (by decide) rfl rfl rfl rfl (fun _ => rfl) (fun _ => rfl) (by decide) ?_
  refine V.aload_n (pc := 13) 0 dX4_init_13 rfl ?_
  refine V.sipush (pc := 14) (z := 1093) dX4_init_14 (by decide +kernel) ⟨by decide, by decide⟩ ?_
  refine V.newarr (pc := 17) 0 1093 ac0 dX4_init_17 (by decide) rfl (by decide) (fun j => ⟨rfl, rfl, rfl⟩) (by decide) (by decide) (by decide) ?_
  show V eX4_init none ([.inr 7, .inr 4, .inl (0, 5712), .inl (0, 1093)], (up2 z0R 1 0 (some 2))) 19 [(0, vR 1)] [vR 3, vR 1] (upR (upR (upR z0H 3 (z0H 3)) 1 (z0H 1)) 2 (z0H 2)) z0H 2 6805 Q
  refine V.putR (pc := 19) (t := 3) (c := 4) (f := 1) inU ffX4_15 dX4_init_19 (rfl) (by decide) (by decide) rfl rfl rfl rfl (fun _ => rfl) (fun _ => rfl) (by decide) ?_
  refine V.aload_n (pc := 22) 0 dX4_init_22 rfl ?_
  refine V.iconst (pc := 23) (z := 0) dX4_init_23 rfl ⟨by decide, by decide⟩ ?_
  refine V.pi (pc := 24) (hi' := (upR (upR (upR z0H 3 (z0H 3)) 1 (updF (z0H 1) 2 0)) 2 (z0H 2))) 4 2 flX4_18 dX4_init_24 (rfl) (by decide) (by decide) rfl rfl (us (by decide) u1) ?_
  refine V.iconst (pc := 27) (z := 1) dX4_init_27 rfl ⟨by decide, by decide⟩ ?_
  refine V.istore_n (pc := 28) (i := 1) dX4_init_28 rfl (by decide) (ls' := [(1, vI 1), (0, vR 1)]) rfl ?_
  have lp29 : ∀ (fu29 : Nat) (s : Nat) (g : Nat → Int) (f2 : Nat → Int) (f3' : Nat → Int), (1 ≤ s) → (s ≤ 4) → (TBI f2 f3' g ((s - 1) * 364)) → 4 - s < fu29 → V eX4_init none ([.inr 7, .inr 4, .inl (0, 5712), .inl (0, 1093)], (up2 (up2 z0R 1 0 (some 2)) 1 1 (some 3))) 29 [(0, vR 1), (1, vI ((s : Nat) : Int))] [] (upR (upR (upR z0H 3 (f3')) 1 g) 2 f2) z0H 2 6805 Q := by
    intro fu29
    induction fu29 with
    | zero => intro s g f2 f3' hs1 hs2 hI hm29; exact absurd hm29 (Nat.not_lt_zero _)
    | succ fu29 ih29 =>
      intro s g f2 f3' hs1 hs2 hI hm29
      refine V.iload_n (pc := 29) 1 dX4_init_29 rfl ?_
      refine V.iconst (pc := 30) (z := 3) dX4_init_30 rfl ⟨by decide, by decide⟩ ?_
      refine V.icmp_gt (pc := 31) 87 dX4_init_31 (by decide) (fun h31 => ?_) (fun h31 => ?_)
      · skip
        refine V.vret (pc := 87) dX4_init_87 rfl ?_
        exact hq _ _ _ (by have e : s = 4 := (by omega); subst e; exact ⟨hI.1, hI.2.2⟩)
      · skip
        refine V.iconst (pc := 34) (z := 0) dX4_init_34 rfl ⟨by decide, by decide⟩ ?_
        refine V.istore_n (pc := 35) (i := 2) dX4_init_35 rfl (by decide) (ls' := [(2, vI 0), (0, vR 1), (1, vI ((s : Nat) : Int))]) rfl ?_
        have lp36 : ∀ (fu36 : Nat) (v : Nat) (ga : Nat → Int) (fa : Nat → Int) (fb : Nat → Int), (v ≤ 364) → (TBI fa fb ga ((s - 1) * 364 + v)) → 364 - v < fu36 → V eX4_init none ([.inr 7, .inr 4, .inl (0, 5712), .inl (0, 1093)], (up2 (up2 z0R 1 0 (some 2)) 1 1 (some 3))) 36 [(0, vR 1), (1, vI ((s : Nat) : Int)), (2, vI ((v : Nat) : Int))] [] (upR (upR (upR z0H 3 fb) 1 ga) 2 fa) z0H 2 6805 Q := by
          intro fu36
          induction fu36 with
          | zero => intro v ga fa fb hv hJ hm36; exact absurd hm36 (Nat.not_lt_zero _)
          | succ fu36 ih36 =>
            intro v ga fa fb hv hJ hm36
            have hst := stt_c (show (s - 1) * 364 + v ≤ 1092 by omega)
            refine V.iload_n (pc := 36) 2 dX4_init_36 rfl ?_
            refine V.sipush (pc := 37) (z := 364) dX4_init_37 (by decide +kernel) ⟨by decide, by decide⟩ ?_
            refine V.icmp_ge (pc := 40) 81 dX4_init_40 (by decide) (fun h40 => ?_) (fun h40 => ?_)
            · skip
              refine V.iinc (pc := 81) (r := ((s + 1 : Nat) : Int)) 1 dX4_init_81 rfl (w32_of (by omega) (by omega) (by omega)) (by decide) (ls' := [(1, vI ((s + 1 : Nat) : Int)), (0, vR 1), (2, vI ((v : Nat) : Int))]) rfl ?_
              refine V.goto (pc := 84) 29 dX4_init_84 (by decide) ?_
              refine V.locs [1, 0] (ls' := [(0, vR 1), (1, vI ((s + 1 : Nat) : Int))]) rfl ?_
              exact ih29 (s + 1) ga fa fb (by omega) (by omega) (by rw [show (s + 1 - 1) * 364 = (s - 1) * 364 + v by omega]; exact hJ) (by omega)
            · skip
              refine V.iload_n (pc := 43) 1 dX4_init_43 rfl ?_
              refine V.iconst (pc := 44) (z := 1) dX4_init_44 rfl ⟨by decide, by decide⟩ ?_
              refine V.isub (pc := 45) (((s - 1 : Nat) : Int)) dX4_init_45 (subN (a := s) (b := 1) (by omega) (by omega)) ?_
              refine V.sipush (pc := 46) (z := 364) dX4_init_46 (by decide +kernel) ⟨by decide, by decide⟩ ?_
              refine V.imul (pc := 49) ((((s - 1) * 364 : Nat) : Int)) dX4_init_49 (mulN (a := s - 1) (b := 364) (by omega)) ?_
              refine V.iload_n (pc := 50) 2 dX4_init_50 rfl ?_
              refine V.iadd (pc := 51) (((((s - 1) * 364 + v) : Nat) : Int)) dX4_init_51 (addN (a := (s - 1) * 364) (b := v) (by omega)) ?_
              refine V.istore_n (pc := 52) (i := 3) dX4_init_52 rfl (by decide) (ls' := [(3, vI ((((s - 1) * 364 + v) : Nat) : Int)), (0, vR 1), (1, vI ((s : Nat) : Int)), (2, vI ((v : Nat) : Int))]) rfl ?_
              refine V.aload_n (pc := 53) 1 dX4_init_53 rfl ?_
              refine V.iload_n (pc := 54) 2 dX4_init_54 rfl ?_
              refine V.iload_n (pc := 55) 3 dX4_init_55 rfl ?_
              refine V.aload_n (pc := 56) 1 dX4_init_56 rfl ?_
              refine V.gi (pc := 57) 4 2 ((stt ((s - 1) * 364 + v) : Nat) : Int) flX4_18 dX4_init_57 (rfl) (by decide) (by decide) rfl (hJ.2.1) ?_
              refine V.callV (pc := 60) (e1 := eX4_list) (o := 1) (c := 4) 3 [vI ((s : Nat) : Int), vI ((v : Nat) : Int), vI ((stt ((s - 1) * 364 + v) : Nat) : Int)] [] mfX4_list slX4_list mlX4_22 dX4_init_60 (rfl) (by decide) rfl rfl rfl (Nat.le_of_ble_eq_true rfl) ⟨by decide, by decide, by decide, by decide⟩ ?_
              refine c_X4_list (upR (upR (upR z0H 3 fb) 1 ga) 2 fa) z0H fa (stt ((s - 1) * 364 + v)) s v hs1 (by omega) (by omega) ⟨hJ.2.1, fun _ _ => rfl, fun i hi => absurd hi (Nat.not_lt_zero _)⟩ (stt_b hs1 (by omega) (by omega)) _ (fun gc fc hA => ?_)
              refine V.qV (pc := 60) rfl rfl ?_
              refine V.hieq (hi' := (upR (upR (upR z0H 3 fb) 1 gc) 2 fc)) ((upR_c (rs (by decide) r1)).trans r1) ?_
              refine V.aload_n (pc := 63) 1 dX4_init_63 rfl ?_
              refine V.gr (pc := 64) 4 1 3 flX4_15 dX4_init_64 (rfl) (by decide) (by decide) rfl (rfl) ?_
              refine V.iload_n (pc := 67) 0 dX4_init_67 rfl ?_
              refine V.iconst (pc := 68) (z := 1) dX4_init_68 rfl ⟨by decide, by decide⟩ ?_
              refine V.iadd (pc := 69) ((((s - 1) * 364 + v + 1 : Nat) : Int)) dX4_init_69 (w32_of (by omega) (by omega) (by omega)) ?_
              refine V.aload_n (pc := 70) 1 dX4_init_70 rfl ?_
              refine V.gi (pc := 71) 4 2 ((stt ((s - 1) * 364 + v + 1) : Nat) : Int) flX4_18 dX4_init_71 (rfl) (by decide) (by decide) rfl (by rw [stt_n hs1 (by omega)]; exact hA.1) ?_
              refine V.is (pc := 74) (len := 1093) (hi' := (upR (upR (upR z0H 3 (updF fb ((s - 1) * 364 + v + 1) ((stt ((s - 1) * 364 + v + 1) : Nat) : Int))) 1 gc) 2 fc)) ((s - 1) * 364 + v + 1) dX4_init_74 (rfl) (rfl) (by omega) (us (by decide) (us (by decide) u1)) ?_
              refine V.iinc (pc := 75) (r := ((v + 1 : Nat) : Int)) 3 dX4_init_75 rfl (w32_of (by omega) (by omega) (by omega)) (by decide) (ls' := [(2, vI ((v + 1 : Nat) : Int)), (3, vI ((((s - 1) * 364 + v) : Nat) : Int)), (0, vR 1), (1, vI ((s : Nat) : Int))]) rfl ?_
              refine V.goto (pc := 78) 36 dX4_init_78 (by decide) ?_
              refine V.locs [2, 3, 0] (ls' := [(0, vR 1), (1, vI ((s : Nat) : Int)), (2, vI ((v + 1 : Nat) : Int))]) rfl ?_
              exact ih36 (v + 1) gc fc (updF fb ((s - 1) * 364 + v + 1) ((stt ((s - 1) * 364 + v + 1) : Nat) : Int)) (by omega) (TBI_next hs1 (by omega) hJ hA) (by omega)
        refine V.locs [1, 2, 0] (ls' := [(0, vR 1), (1, vI ((s : Nat) : Int)), (2, vI 0)]) rfl ?_
        exact lp36 _ 0 g f2 (f3') (by omega) (hI) (Nat.lt_succ_self _)
  refine V.locs [1, 0] (ls' := [(0, vR 1), (1, vI 1)]) rfl ?_
  exact lp29 _ 1 (updF (z0H 1) 2 0) (z0H 2) (z0H 3) (by omega) (by omega) (⟨fun q hq => by rw [Nat.le_zero.mp hq]; rfl, rfl, fun q hq => absurd hq (Nat.not_lt_zero _)⟩) (Nat.lt_succ_self _)

set_option maxRecDepth 100000 in
theorem c_X4_rowOf (K : KK) (hi hl : HI) (s v : Nat) (Q : QT) (hT : (1 ≤ s ∧ s ≤ 3 ∧ v < 364) → Q (some (vI (((s - 1) * 364 + v : Nat)))) K hi hl) (hF : ¬ (1 ≤ s ∧ s ≤ 3 ∧ v < 364) → Q (some (vI (-1))) K hi hl) (hs : s < 1000) : Con eX4_rowOf [vI (s : Nat), vI (v : Nat)] K hi hl Q := by
  refine Con.ofV (by decide +kernel) (Nat.le_of_ble_eq_true rfl) ?_
  show V eX4_rowOf none K 0 [(0, vI ((s : Nat) : Int)), (1, vI ((v : Nat) : Int))] [] hi hl 0 0 Q
  refine V.iload_n (pc := 0) 0 dX4_rowOf_0 rfl ?_
  refine V.iconst (pc := 1) (z := 1) dX4_rowOf_1 rfl ⟨by decide, by decide⟩ ?_
  refine V.icmp_lt (pc := 2) 25 dX4_rowOf_2 (by decide) (fun h2 => ?_) (fun h2 => ?_)
  · skip
    refine V.iconst (pc := 25) (z := 0) dX4_rowOf_25 rfl ⟨by decide, by decide⟩ ?_
    refine V.istore_n (pc := 26) (i := 2) dX4_rowOf_26 rfl (by decide) (ls' := [(2, vI 0), (0, vI ((s : Nat) : Int)), (1, vI ((v : Nat) : Int))]) rfl ?_
    refine V.iload_n (pc := 27) 0 dX4_rowOf_27 rfl ?_
    refine V.if_eq (pc := 28) 43 dX4_rowOf_28 (by decide) (fun h28 => ?_) (fun hc => by exact absurd hc (by decide))
    refine V.iconst (pc := 43) (z := (-1)) dX4_rowOf_43 rfl ⟨by decide, by decide⟩ ?_
    refine V.iret (pc := 44) (z := (-1)) dX4_rowOf_44 rfl ?_
    first | exact hF (by omega) | exact hT (by omega)
  · skip
    refine V.iload_n (pc := 5) 0 dX4_rowOf_5 rfl ?_
    refine V.iconst (pc := 6) (z := 3) dX4_rowOf_6 rfl ⟨by decide, by decide⟩ ?_
    refine V.icmp_gt (pc := 7) 25 dX4_rowOf_7 (by decide) (fun h7 => ?_) (fun h7 => ?_)
    · skip
      refine V.iconst (pc := 25) (z := 0) dX4_rowOf_25 rfl ⟨by decide, by decide⟩ ?_
      refine V.istore_n (pc := 26) (i := 2) dX4_rowOf_26 rfl (by decide) (ls' := [(2, vI 0), (0, vI ((s : Nat) : Int)), (1, vI ((v : Nat) : Int))]) rfl ?_
      refine V.iload_n (pc := 27) 0 dX4_rowOf_27 rfl ?_
      refine V.if_eq (pc := 28) 43 dX4_rowOf_28 (by decide) (fun h28 => ?_) (fun hc => by exact absurd hc (by decide))
      refine V.iconst (pc := 43) (z := (-1)) dX4_rowOf_43 rfl ⟨by decide, by decide⟩ ?_
      refine V.iret (pc := 44) (z := (-1)) dX4_rowOf_44 rfl ?_
      first | exact hF (by omega) | exact hT (by omega)
    · skip
      refine V.iload_n (pc := 10) 1 dX4_rowOf_10 rfl ?_
      refine V.if_lt (pc := 11) 25 dX4_rowOf_11 (by decide) (fun hc => by exfalso; omega) (fun h11 => ?_)
      refine V.iload_n (pc := 14) 1 dX4_rowOf_14 rfl ?_
      refine V.sipush (pc := 15) (z := 364) dX4_rowOf_15 (by decide +kernel) ⟨by decide, by decide⟩ ?_
      refine V.icmp_ge (pc := 18) 25 dX4_rowOf_18 (by decide) (fun h18 => ?_) (fun h18 => ?_)
      · skip
        refine V.iconst (pc := 25) (z := 0) dX4_rowOf_25 rfl ⟨by decide, by decide⟩ ?_
        refine V.istore_n (pc := 26) (i := 2) dX4_rowOf_26 rfl (by decide) (ls' := [(2, vI 0), (0, vI ((s : Nat) : Int)), (1, vI ((v : Nat) : Int))]) rfl ?_
        refine V.iload_n (pc := 27) 0 dX4_rowOf_27 rfl ?_
        refine V.if_eq (pc := 28) 43 dX4_rowOf_28 (by decide) (fun h28 => ?_) (fun hc => by exact absurd hc (by decide))
        refine V.iconst (pc := 43) (z := (-1)) dX4_rowOf_43 rfl ⟨by decide, by decide⟩ ?_
        refine V.iret (pc := 44) (z := (-1)) dX4_rowOf_44 rfl ?_
        first | exact hF (by omega) | exact hT (by omega)
      · skip
        refine V.iconst (pc := 21) (z := 1) dX4_rowOf_21 rfl ⟨by decide, by decide⟩ ?_
        refine V.goto (pc := 22) 26 dX4_rowOf_22 (by decide) ?_
        refine V.istore_n (pc := 26) (i := 2) dX4_rowOf_26 rfl (by decide) (ls' := [(2, vI 1), (0, vI ((s : Nat) : Int)), (1, vI ((v : Nat) : Int))]) rfl ?_
        refine V.iload_n (pc := 27) 0 dX4_rowOf_27 rfl ?_
        refine V.if_eq (pc := 28) 43 dX4_rowOf_28 (by decide) (fun hc => by exact absurd hc (by decide)) (fun h28 => ?_)
        refine V.iload_n (pc := 31) 1 dX4_rowOf_31 rfl ?_
        refine V.iconst (pc := 32) (z := 1) dX4_rowOf_32 rfl ⟨by decide, by decide⟩ ?_
        refine V.isub (pc := 33) (((s - 1 : Nat) : Int)) dX4_rowOf_33 (subN (a := s) (b := 1) (by omega) (by omega)) ?_
        refine V.sipush (pc := 34) (z := 364) dX4_rowOf_34 (by decide +kernel) ⟨by decide, by decide⟩ ?_
        refine V.imul (pc := 37) ((((s - 1) * 364 : Nat) : Int)) dX4_rowOf_37 (mulN (a := s - 1) (b := 364) (by omega)) ?_
        refine V.iload_n (pc := 38) 2 dX4_rowOf_38 rfl ?_
        refine V.iadd (pc := 39) (((((s - 1) * 364 + v) : Nat) : Int)) dX4_rowOf_39 (addN (a := (s - 1) * 364) (b := v) (by omega)) ?_
        refine V.goto (pc := 40) 44 dX4_rowOf_40 (by decide) ?_
        refine V.iret (pc := 44) (z := ((((s - 1) * 364 + v) : Nat) : Int)) dX4_rowOf_44 rfl ?_
        first | exact hF (by omega) | exact hT (by omega)
