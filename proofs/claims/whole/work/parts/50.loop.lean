set_option maxRecDepth 100000 in
theorem law_loop {L : Nat} {xs : Nat → Int} (hxs : ∀ j, rI (xs j)) (hL : L ≤ 2560) : ∀ (n i : Nat) (σ : SG) (m : Nat) (g : Nat → Int) (im : Nat → Option SG) (hi hl : HI), RC hi hl (σ, m, g, im) → RMo hi hl (σ, m, g, im) → L + 5 - i < n → i ≤ L → V eL_law (some (L, xs)) KW 18 [(0, vR SC), (1, vR 0), (2, vR 77), (3, vI ((i : Nat) : Int))] [] hi hl 96 78974 QL := by
  intro n
  induction n with
  | zero => intro i σ m g im hi hl hC hM hf; exact absurd hf (Nat.not_lt_zero _)
  | succ n ih =>
    intro i σ m g im hi hl hC hM hf hi0
    refine V.iload_n (pc := 18) 3 dL_law_18 rfl ?_
    refine V.aload_n (pc := 19) 0 dL_law_19 rfl ?_
    refine V.slen (pc := 20) dL_law_20 (by omega) ?_
    refine V.iconst (pc := 21) (z := 5) dL_law_21 rfl ⟨by decide, by decide⟩ ?_
    refine V.isub (pc := 22) ((((L : Nat) : Int) - 5)) dL_law_22 (w32_of (by omega) (by omega) (by omega)) ?_
    refine V.icmp_gt (pc := 23) 781 dL_law_23 (by decide) (fun h23 => ?_) (fun h23 => ?_)
    · skip
      refine V.iconst (pc := 781) (z := 1) dL_law_781 rfl ⟨by decide, by decide⟩ ?_
      refine V.zret (pc := 782) (z := 1) dL_law_782 rfl (Or.inr rfl) ?_
      exact rfl
    · have hiL : i + 5 ≤ L := by omega
      have ct775 : ∀ (hi' hl' : HI) (G' : GS), RC hi' hl' G' → RMo hi' hl' G' → V eL_law (some (L, xs)) KW 775 [(0, vR SC), (1, vR 0), (2, vR 77), (3, vI ((i : Nat) : Int))] [] hi' hl' 96 78974 QL := by
        intro hi' hl' G' a b
        obtain ⟨σ', m', g', im'⟩ := G'
        refine V.iinc (pc := 775) (r := ((i + 5 : Nat) : Int)) 3 dL_law_775 rfl (w32_of (by omega) (by omega) (by omega)) (by decide) (ls' := [(3, vI ((i + 5 : Nat) : Int)), (0, vR SC), (1, vR 0), (2, vR 77)]) rfl ?_
        refine V.goto (pc := 778) 18 dL_law_778 (by decide) ?_
        refine V.locs [1, 2, 3, 0] (ls' := [(0, vR SC), (1, vR 0), (2, vR 77), (3, vI ((i + 5 : Nat) : Int))]) rfl ?_
        exact ih (i + 5) σ' m' g' im' hi' hl' a b (by omega) (by omega)
      refine V.aload_n (pc := 26) 0 dL_law_26 rfl ?_
      refine V.iload_n (pc := 27) 3 dL_law_27 rfl ?_
      refine V.sald (pc := 28) i dL_law_28 rfl (by omega) ?_
      refine V.bipush (pc := 29) (z := 31) dL_law_29 (by decide +kernel) ⟨by decide, by decide⟩ ?_
      refine V.iand (pc := 31) (((i32 (xs i) &&& i32 31).toInt)) dL_law_31 i32_eq.symm (rI_toInt _) ?_
      by_cases hts : ((i32 (xs i) &&& i32 31).toInt) < 0 ∨ 24 < ((i32 (xs i) &&& i32 31).toInt)
      · refine V.tabOut (pc := 32) 775 dL_law_32 hts (by decide) ?_
        exact ct775 _ _ (σ, m, g, im) hC hM
      · have htr : ((i32 (xs i) &&& i32 31).toInt) = 0 ∨ ((i32 (xs i) &&& i32 31).toInt) = 1 ∨ ((i32 (xs i) &&& i32 31).toInt) = 2 ∨ ((i32 (xs i) &&& i32 31).toInt) = 3 ∨ ((i32 (xs i) &&& i32 31).toInt) = 4 ∨ ((i32 (xs i) &&& i32 31).toInt) = 5 ∨ ((i32 (xs i) &&& i32 31).toInt) = 6 ∨ ((i32 (xs i) &&& i32 31).toInt) = 7 ∨ ((i32 (xs i) &&& i32 31).toInt) = 8 ∨ ((i32 (xs i) &&& i32 31).toInt) = 9 ∨ ((i32 (xs i) &&& i32 31).toInt) = 10 ∨ ((i32 (xs i) &&& i32 31).toInt) = 11 ∨ ((i32 (xs i) &&& i32 31).toInt) = 12 ∨ ((i32 (xs i) &&& i32 31).toInt) = 13 ∨ ((i32 (xs i) &&& i32 31).toInt) = 14 ∨ ((i32 (xs i) &&& i32 31).toInt) = 15 ∨ ((i32 (xs i) &&& i32 31).toInt) = 16 ∨ ((i32 (xs i) &&& i32 31).toInt) = 17 ∨ ((i32 (xs i) &&& i32 31).toInt) = 18 ∨ ((i32 (xs i) &&& i32 31).toInt) = 19 ∨ ((i32 (xs i) &&& i32 31).toInt) = 20 ∨ ((i32 (xs i) &&& i32 31).toInt) = 21 ∨ ((i32 (xs i) &&& i32 31).toInt) = 22 ∨ ((i32 (xs i) &&& i32 31).toInt) = 23 ∨ ((i32 (xs i) &&& i32 31).toInt) = 24 := by omega
        rcases htr with hc | hc | hc | hc | hc | hc | hc | hc | hc | hc | hc | hc | hc | hc | hc | hc | hc | hc | hc | hc | hc | hc | hc | hc | hc
        · refine V.tabIn (pc := 32) 0 148 dL_law_32 (by omega) (by omega) rfl (by decide) ?_
          exact law_c0 hxs hL i hiL hi hl σ m g im hC hM ct775
        · refine V.tabIn (pc := 32) 1 181 dL_law_32 (by omega) (by omega) rfl (by decide) ?_
          exact law_c1 hxs hL i hiL hi hl σ m g im hC hM ct775
        · refine V.tabIn (pc := 32) 2 204 dL_law_32 (by omega) (by omega) rfl (by decide) ?_
          exact law_c2 hxs hL i hiL hi hl σ m g im hC hM ct775
        · refine V.tabIn (pc := 32) 3 217 dL_law_32 (by omega) (by omega) rfl (by decide) ?_
          exact law_c3 hxs hL i hiL hi hl σ m g im hC hM ct775
        · refine V.tabIn (pc := 32) 4 240 dL_law_32 (by omega) (by omega) rfl (by decide) ?_
          exact law_c4 hxs hL i hiL hi hl σ m g im hC hM ct775
        · refine V.tabIn (pc := 32) 5 253 dL_law_32 (by omega) (by omega) rfl (by decide) ?_
          exact law_c5 hxs hL i hiL hi hl σ m g im hC hM ct775
        · refine V.tabIn (pc := 32) 6 286 dL_law_32 (by omega) (by omega) rfl (by decide) ?_
          exact law_c6 hxs hL i hiL hi hl σ m g im hC hM ct775
        · refine V.tabIn (pc := 32) 7 319 dL_law_32 (by omega) (by omega) rfl (by decide) ?_
          exact law_c7 hxs hL i hiL hi hl σ m g im hC hM ct775
        · refine V.tabIn (pc := 32) 8 332 dL_law_32 (by omega) (by omega) rfl (by decide) ?_
          exact law_c8 hxs hL i hiL hi hl σ m g im hC hM ct775
        · refine V.tabIn (pc := 32) 9 365 dL_law_32 (by omega) (by omega) rfl (by decide) ?_
          exact law_c9 hxs hL i hiL hi hl σ m g im hC hM ct775
        · refine V.tabIn (pc := 32) 10 388 dL_law_32 (by omega) (by omega) rfl (by decide) ?_
          exact law_c10 hxs hL i hiL hi hl σ m g im hC hM ct775
        · refine V.tabIn (pc := 32) 11 411 dL_law_32 (by omega) (by omega) rfl (by decide) ?_
          exact law_c11 hxs hL i hiL hi hl σ m g im hC hM ct775
        · refine V.tabIn (pc := 32) 12 424 dL_law_32 (by omega) (by omega) rfl (by decide) ?_
          exact law_c12 hxs hL i hiL hi hl σ m g im hC hM ct775
        · refine V.tabIn (pc := 32) 13 447 dL_law_32 (by omega) (by omega) rfl (by decide) ?_
          exact law_c13 hxs hL i hiL hi hl σ m g im hC hM ct775
        · refine V.tabIn (pc := 32) 14 461 dL_law_32 (by omega) (by omega) rfl (by decide) ?_
          exact law_c14 hxs hL i hiL hi hl σ m g im hC hM ct775
        · refine V.tabIn (pc := 32) 15 485 dL_law_32 (by omega) (by omega) rfl (by decide) ?_
          exact law_c15 hxs hL i hiL hi hl σ m g im hC hM ct775
        · refine V.tabIn (pc := 32) 16 508 dL_law_32 (by omega) (by omega) rfl (by decide) ?_
          exact law_c16 hxs hL i hiL hi hl σ m g im hC hM ct775
        · refine V.tabIn (pc := 32) 17 531 dL_law_32 (by omega) (by omega) rfl (by decide) ?_
          exact law_c17 hxs hL i hiL hi hl σ m g im hC hM ct775
        · refine V.tabIn (pc := 32) 18 554 dL_law_32 (by omega) (by omega) rfl (by decide) ?_
          exact law_c18 hxs hL i hiL hi hl σ m g im hC hM ct775
        · refine V.tabIn (pc := 32) 19 587 dL_law_32 (by omega) (by omega) rfl (by decide) ?_
          exact law_c19 hxs hL i hiL hi hl σ m g im hC hM ct775
        · refine V.tabIn (pc := 32) 20 610 dL_law_32 (by omega) (by omega) rfl (by decide) ?_
          exact law_c20 hxs hL i hiL hi hl σ m g im hC hM ct775
        · refine V.tabIn (pc := 32) 21 663 dL_law_32 (by omega) (by omega) rfl (by decide) ?_
          exact law_c21 hxs hL i hiL hi hl σ m g im hC hM ct775
        · refine V.tabIn (pc := 32) 22 706 dL_law_32 (by omega) (by omega) rfl (by decide) ?_
          exact law_c22 hxs hL i hiL hi hl σ m g im hC hM ct775
        · refine V.tabIn (pc := 32) 23 729 dL_law_32 (by omega) (by omega) rfl (by decide) ?_
          exact law_c23 hxs hL i hiL hi hl σ m g im hC hM ct775
        · refine V.tabIn (pc := 32) 24 752 dL_law_32 (by omega) (by omega) rfl (by decide) ?_
          exact law_c24 hxs hL i hiL hi hl σ m g im hC hM ct775

set_option maxRecDepth 100000 in
set_option maxHeartbeats 4000000 in
theorem law_V {L : Nat} {xs : Nat → Int} (hxs : ∀ j, rI (xs j)) (hL : L ≤ 2560) : V eL_law (some (L, xs)) ([], z0R) 0 [(0, vR SC)] [] z0H z0H 0 0 QL := by
  refine V.new (pc := 0) (c := 7) inU knL_7 ib7 it7 dL_law_0 (by decide) (fun j => ⟨rfl, rfl, rfl⟩) (by decide) (by decide) (by decide) ?_
  show V eL_law (some (L, xs)) ([.inr 7], z0R) 3 [(0, vR SC)] [vR 0] z0H z0H 1 13 QL
  refine V.dup (pc := 3) dL_law_3 rfl ?_
  refine V.callI (pc := 4) (e1 := eX7_init) (o := 0) 0 [] [vR 0] mfX7_init slX7_init rfl rfl mlL_9 dL_law_4 rfl rfl (Nat.le_of_ble_eq_true rfl) ⟨by decide, by decide, by decide, by decide⟩ ?_
  refine c_X7_init _ (fun hi hl kI kz => ?_)
  show V eL_law (some (L, xs)) KC 7 [(0, vR SC)] [vR 0] hi hl 77 17461 QL
  refine V.astore_n (pc := 7) (i := 1) dL_law_7 rfl (by decide) (ls' := [(1, vR 0), (0, vR SC)]) rfl ?_
  refine V.new (pc := 8) (c := 8) inU knL_10 ib8 it8 dL_law_8 (by decide) (fun j => ⟨(kz 77 (by decide) j).1, (kz 77 (by decide) j).2, rfl⟩) (by decide) (by decide) (by decide) ?_
  show V eL_law (some (L, xs)) (KC.1 ++ [.inr 8], KC.2) 11 [(1, vR 0), (0, vR SC)] [vR 77] hi hl 78 17490 QL
  refine V.dup (pc := 11) dL_law_11 rfl ?_
  refine V.callI (pc := 12) (e1 := eX8_init) (o := 77) 0 [] [vR 77] mfX8_init slX8_init rfl rfl mlL_12 dL_law_12 rfl rfl (Nat.le_of_ble_eq_true rfl) ⟨by decide, by decide, by decide, by decide⟩ ?_
  refine c_X8_init2 hi hl kz _ (fun hi' w1 w2 w3 => ?_)
  show V eL_law (some (L, xs)) KW 15 [(1, vR 0), (0, vR SC)] [vR 77] hi' hl 96 78974 QL
  refine V.astore_n (pc := 15) (i := 2) dL_law_15 rfl (by decide) (ls' := [(2, vR 77), (1, vR 0), (0, vR SC)]) rfl ?_
  refine V.iconst (pc := 16) (z := 0) dL_law_16 rfl ⟨by decide, by decide⟩ ?_
  refine V.istore_n (pc := 17) (i := 3) dL_law_17 rfl (by decide) (ls' := [(3, vI 0), (2, vR 77), (1, vR 0), (0, vR SC)]) rfl ?_
  refine V.locs [3, 2, 1, 0] (ls' := [(0, vR SC), (1, vR 0), (2, vR 77), (3, vI ((0 : Nat) : Int))]) rfl ?_
  exact law_loop hxs hL (L + 6) 0 σ0 0 (fun _ => 0) (fun _ => none) hi' hl (RC_fr (fun a ha => ⟨w1 a ha, rfl⟩) (RC_0 kI)) (RM_0 w2 w3) (by omega) (Nat.zero_le L)

