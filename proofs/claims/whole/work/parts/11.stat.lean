theorem c_X7_power (K : KK) (hi hl : HI) (n : Nat) (hn : n ≤ 6) (Q : QT) (hq : Q (some (vI (p3 n : Nat))) K hi hl) : Con eX7_power [vI (n : Nat)] K hi hl Q := by
  refine Con.ofV (by decide +kernel) (Nat.le_of_ble_eq_true rfl) ?_
  show V eX7_power none K 0 [(0, vI ((n : Nat) : Int))] [] hi hl 0 0 Q
  refine V.iconst (pc := 0) (z := 1) dX7_power_0 rfl ⟨by decide, by decide⟩ ?_
  refine V.istore_n (pc := 1) (i := 1) dX7_power_1 rfl (by decide) (ls' := [(1, vI 1), (0, vI ((n : Nat) : Int))]) rfl ?_
  refine V.iconst (pc := 2) (z := 0) dX7_power_2 rfl ⟨by decide, by decide⟩ ?_
  refine V.istore_n (pc := 3) (i := 2) dX7_power_3 rfl (by decide) (ls' := [(2, vI 0), (1, vI 1), (0, vI ((n : Nat) : Int))]) rfl ?_
  have lp4 : ∀ (fu4 : Nat) (k : Nat), (k ≤ n) → n - k < fu4 → V eX7_power none K 4 [(0, vI ((n : Nat) : Int)), (1, vI ((p3 k : Nat) : Int)), (2, vI ((k : Nat) : Int))] [] hi hl 0 0 Q := by
    intro fu4
    induction fu4 with
    | zero => intro k hk hm4; exact absurd hm4 (Nat.not_lt_zero _)
    | succ fu4 ih4 =>
      intro k hk hm4
      refine V.iload_n (pc := 4) 2 dX7_power_4 rfl ?_
      refine V.iload_n (pc := 5) 0 dX7_power_5 rfl ?_
      refine V.icmp_ge (pc := 6) 24 dX7_power_6 (by decide) (fun h6 => ?_) (fun h6 => ?_)
      · skip
        refine V.iload_n (pc := 24) 1 dX7_power_24 rfl ?_
        refine V.iret (pc := 25) (z := ((p3 k : Nat) : Int)) dX7_power_25 rfl ?_
        have hk2 : k = n := by omega
        subst hk2
        exact hq
      · skip
        refine V.iload_n (pc := 9) 2 dX7_power_9 rfl ?_
        refine V.iconst (pc := 10) (z := 5) dX7_power_10 rfl ⟨by decide, by decide⟩ ?_
        refine V.icmp_gt (pc := 11) 24 dX7_power_11 (by decide) (fun hc => by exfalso; omega) (fun h11 => ?_)
        refine V.iload_n (pc := 14) 1 dX7_power_14 rfl ?_
        refine V.iconst (pc := 15) (z := 3) dX7_power_15 rfl ⟨by decide, by decide⟩ ?_
        have h3 := p3_6 (show k ≤ 6 by omega)
        refine V.imul (pc := 16) (((p3 (k + 1) : Nat) : Int)) dX7_power_16 (w32_of (by rw [p3_s]; omega) (by omega) (by rw [p3_s]; omega)) ?_
        refine V.istore_n (pc := 17) (i := 1) dX7_power_17 rfl (by decide) (ls' := [(1, vI ((p3 (k + 1) : Nat) : Int)), (0, vI ((n : Nat) : Int)), (2, vI ((k : Nat) : Int))]) rfl ?_
        refine V.iinc (pc := 18) (r := ((k + 1 : Nat) : Int)) 2 dX7_power_18 rfl (w32_of (by omega) (by omega) (by omega)) (by decide) (ls' := [(2, vI ((k + 1 : Nat) : Int)), (1, vI ((p3 (k + 1) : Nat) : Int)), (0, vI ((n : Nat) : Int))]) rfl ?_
        refine V.goto (pc := 21) 4 dX7_power_21 (by decide) ?_
        refine V.locs [2, 1, 0] (ls' := [(0, vI ((n : Nat) : Int)), (1, vI ((p3 (k + 1) : Nat) : Int)), (2, vI ((k + 1 : Nat) : Int))]) rfl ?_
        exact ih4 (k + 1) (by omega) (by omega)
  refine V.locs [2, 1, 0] (ls' := [(0, vI ((n : Nat) : Int)), (1, vI 1), (2, vI 0)]) rfl ?_
  exact lp4 _ 0 (by omega) (Nat.lt_succ_self _)
