set_option maxRecDepth 100000 in
theorem c_X2_free_36 (hi hl C N : HI) (B f fl : Nat → Int) (s : Nat) (hs : s ≤ 6) (Q : QT) (hq : ∀ g m : Nat → Int, (∀ v, v < 364 → g v = 0 ∧ m v = 1) → Q none KW (upR (upR (blk hi 38 (upR C s g)) 53 (updF B s 0)) 36 f) (upR (blk hl 46 (upR N s m)) 36 fl)) : Con eX2_free [vR 36, vI (s : Nat)] KW (upR (upR (blk hi 38 C) 53 B) 36 f) (upR (blk hl 46 N) 36 fl) Q := by
  refine Con.ofV (by decide +kernel) (Nat.le_of_ble_eq_true rfl) ?_
  show V eX2_free none KW 0 [(0, vR 36), (1, vI ((s : Nat) : Int))] [] (upR (upR (blk hi 38 C) 53 B) 36 f) (upR (blk hl 46 N) 36 fl) 0 0 Q
  refine V.hieq (hi' := (upR (upR (blk hi 38 (upR C s (C s))) 53 B) 36 f)) (by rw [upR_id]) ?_
  refine V.hleq (hl' := (upR (blk hl 46 (upR N s (N s))) 36 fl)) (by rw [upR_id]) ?_
  refine V.aload_n (pc := 0) 0 dX2_free_0 rfl ?_
  refine V.gr (pc := 1) 2 2 53 flX2_21 dX2_free_1 (kS_36) (by decide) (by decide) rfl (kR_36_2) ?_
  refine V.iload_n (pc := 4) 1 dX2_free_4 rfl ?_
  refine V.iconst (pc := 5) (z := 0) dX2_free_5 rfl ⟨by decide, by decide⟩ ?_
  refine V.zs (pc := 6) (len := 7) (hi' := (upR (upR (blk hi 38 (upR C s (C s))) 53 (updF B s 0)) 36 f)) s dX2_free_6 (kS_53) (rfl) (by omega) (Or.inl rfl) (us (by decide) u1) ?_
  refine V.iconst (pc := 7) (z := 0) dX2_free_7 rfl ⟨by decide, by decide⟩ ?_
  refine V.istore_n (pc := 8) (i := 2) dX2_free_8 rfl (by decide) (ls' := [(2, vI 0), (0, vR 36), (1, vI ((s : Nat) : Int))]) rfl ?_
  have lp9 : ∀ (fu9 : Nat) (k : Nat) (g : Nat → Int) (m : Nat → Int), (k ≤ 364) → (∀ j, j < k → g j = 0 ∧ m j = 1) → 364 - k < fu9 → V eX2_free none KW 9 [(0, vR 36), (1, vI ((s : Nat) : Int)), (2, vI ((k : Nat) : Int))] [] (upR (upR (blk hi 38 (upR C s g)) 53 (updF B s 0)) 36 f) (upR (blk hl 46 (upR N s m)) 36 fl) 0 0 Q := by
    intro fu9
    induction fu9 with
    | zero => intro k g m hk hC hm9; exact absurd hm9 (Nat.not_lt_zero _)
    | succ fu9 ih9 =>
      intro k g m hk hC hm9
      refine V.iload_n (pc := 9) 2 dX2_free_9 rfl ?_
      refine V.sipush (pc := 10) (z := 364) dX2_free_10 (by decide +kernel) ⟨by decide, by decide⟩ ?_
      refine V.icmp_ge (pc := 13) 40 dX2_free_13 (by decide) (fun h13 => ?_) (fun h13 => ?_)
      · skip
        refine V.vret (pc := 40) dX2_free_40 rfl ?_
        exact hq _ _ (fun j hj => hC j (by omega))
      · skip
        refine V.aload_n (pc := 16) 0 dX2_free_16 rfl ?_
        refine V.gr (pc := 17) 2 0 37 flX2_11 dX2_free_17 (kS_36) (by decide) (by decide) rfl (kR_36_0) ?_
        refine V.iload_n (pc := 20) 1 dX2_free_20 rfl ?_
        refine V.aald (pc := 21) (o' := ((38 + s))) (len := 7) (t := 1) s dX2_free_21 (kS_37) (by decide) (kD_37 (by omega)) (rfl) (by omega) ?_
        refine V.iload_n (pc := 22) 2 dX2_free_22 rfl ?_
        refine V.iconst (pc := 23) (z := 0) dX2_free_23 rfl ⟨by decide, by decide⟩ ?_
        refine V.is (pc := 24) (len := 364) (hi' := (upR (upR (blk hi 38 (upR C s (updF g k 0))) 53 (updF B s 0)) 36 f)) k dX2_free_24 (kE_38 (by omega)) (rfl) (by omega) (us (by omega) (us (by omega) (ublk (by omega) u1))) ?_
        refine V.aload_n (pc := 25) 0 dX2_free_25 rfl ?_
        refine V.gr (pc := 26) 2 1 45 flX2_18 dX2_free_26 (kS_36) (by decide) (by decide) rfl (kR_36_1) ?_
        refine V.iload_n (pc := 29) 1 dX2_free_29 rfl ?_
        refine V.aald (pc := 30) (o' := ((46 + s))) (len := 7) (t := 2) s dX2_free_30 (kS_45) (by decide) (kD_45 (by omega)) (rfl) (by omega) ?_
        refine V.iload_n (pc := 31) 2 dX2_free_31 rfl ?_
        refine V.lconst (pc := 32) (z := 1) dX2_free_32 (by decide +kernel) ⟨by decide, by decide⟩ ?_
        refine V.js (pc := 33) (len := 364) (hl' := (upR (blk hl 46 (upR N s (updF m k 1))) 36 fl)) k dX2_free_33 (kE_46 (by omega)) (rfl) (by omega) (us (by omega) (ublk (by omega) u1)) ?_
        refine V.iinc (pc := 34) (r := ((k + 1 : Nat) : Int)) 2 dX2_free_34 rfl (w32_of (by omega) (by omega) (by omega)) (by decide) (ls' := [(2, vI ((k + 1 : Nat) : Int)), (0, vR 36), (1, vI ((s : Nat) : Int))]) rfl ?_
        refine V.goto (pc := 37) 9 dX2_free_37 (by decide) ?_
        refine V.locs [1, 2, 0] (ls' := [(0, vR 36), (1, vI ((s : Nat) : Int)), (2, vI ((k + 1 : Nat) : Int))]) rfl ?_
        exact ih9 (k + 1) (updF g k 0) (updF m k 1) (by omega) (fun j hj => by by_cases e : j = k; { subst e; rw [updF_s, updF_s]; exact ⟨rfl, rfl⟩ }; { rw [updF_n e, updF_n e]; exact hC j (by omega) }) (by omega)
  refine V.locs [1, 2, 0] (ls' := [(0, vR 36), (1, vI ((s : Nat) : Int)), (2, vI 0)]) rfl ?_
  exact lp9 _ 0 (C s) (N s) (by omega) (fun j hj => absurd hj (Nat.not_lt_zero j)) (Nat.lt_succ_self _)

set_option maxRecDepth 100000 in
theorem c_X2_forbid_36 (hi hl C N : HI) (B f fl : Nat → Int) (s : Nat) (hs : s ≤ 6) (Q : QT) (hq : ∀ g m : Nat → Int, (∀ v, v < 364 → g v = 1000 ∧ m v = 0) → Q none KW (upR (upR (blk hi 38 (upR C s g)) 53 (updF B s 1)) 36 f) (upR (blk hl 46 (upR N s m)) 36 fl)) : Con eX2_forbid [vR 36, vI (s : Nat)] KW (upR (upR (blk hi 38 C) 53 B) 36 f) (upR (blk hl 46 N) 36 fl) Q := by
  refine Con.ofV (by decide +kernel) (Nat.le_of_ble_eq_true rfl) ?_
  show V eX2_forbid none KW 0 [(0, vR 36), (1, vI ((s : Nat) : Int))] [] (upR (upR (blk hi 38 C) 53 B) 36 f) (upR (blk hl 46 N) 36 fl) 0 0 Q
  refine V.hieq (hi' := (upR (upR (blk hi 38 (upR C s (C s))) 53 B) 36 f)) (by rw [upR_id]) ?_
  refine V.hleq (hl' := (upR (blk hl 46 (upR N s (N s))) 36 fl)) (by rw [upR_id]) ?_
  refine V.aload_n (pc := 0) 0 dX2_forbid_0 rfl ?_
  refine V.gr (pc := 1) 2 2 53 flX2_21 dX2_forbid_1 (kS_36) (by decide) (by decide) rfl (kR_36_2) ?_
  refine V.iload_n (pc := 4) 1 dX2_forbid_4 rfl ?_
  refine V.iconst (pc := 5) (z := 1) dX2_forbid_5 rfl ⟨by decide, by decide⟩ ?_
  refine V.zs (pc := 6) (len := 7) (hi' := (upR (upR (blk hi 38 (upR C s (C s))) 53 (updF B s 1)) 36 f)) s dX2_forbid_6 (kS_53) (rfl) (by omega) (Or.inr rfl) (us (by decide) u1) ?_
  refine V.iconst (pc := 7) (z := 0) dX2_forbid_7 rfl ⟨by decide, by decide⟩ ?_
  refine V.istore_n (pc := 8) (i := 2) dX2_forbid_8 rfl (by decide) (ls' := [(2, vI 0), (0, vR 36), (1, vI ((s : Nat) : Int))]) rfl ?_
  have lp9 : ∀ (fu9 : Nat) (k : Nat) (g : Nat → Int) (m : Nat → Int), (k ≤ 364) → (∀ j, j < k → g j = 1000 ∧ m j = 0) → 364 - k < fu9 → V eX2_forbid none KW 9 [(0, vR 36), (1, vI ((s : Nat) : Int)), (2, vI ((k : Nat) : Int))] [] (upR (upR (blk hi 38 (upR C s g)) 53 (updF B s 1)) 36 f) (upR (blk hl 46 (upR N s m)) 36 fl) 0 0 Q := by
    intro fu9
    induction fu9 with
    | zero => intro k g m hk hC hm9; exact absurd hm9 (Nat.not_lt_zero _)
    | succ fu9 ih9 =>
      intro k g m hk hC hm9
      refine V.iload_n (pc := 9) 2 dX2_forbid_9 rfl ?_
      refine V.sipush (pc := 10) (z := 364) dX2_forbid_10 (by decide +kernel) ⟨by decide, by decide⟩ ?_
      refine V.icmp_ge (pc := 13) 42 dX2_forbid_13 (by decide) (fun h13 => ?_) (fun h13 => ?_)
      · skip
        refine V.vret (pc := 42) dX2_forbid_42 rfl ?_
        exact hq _ _ (fun j hj => hC j (by omega))
      · skip
        refine V.aload_n (pc := 16) 0 dX2_forbid_16 rfl ?_
        refine V.gr (pc := 17) 2 0 37 flX2_11 dX2_forbid_17 (kS_36) (by decide) (by decide) rfl (kR_36_0) ?_
        refine V.iload_n (pc := 20) 1 dX2_forbid_20 rfl ?_
        refine V.aald (pc := 21) (o' := ((38 + s))) (len := 7) (t := 1) s dX2_forbid_21 (kS_37) (by decide) (kD_37 (by omega)) (rfl) (by omega) ?_
        refine V.iload_n (pc := 22) 2 dX2_forbid_22 rfl ?_
        refine V.sipush (pc := 23) (z := 1000) dX2_forbid_23 (by decide +kernel) ⟨by decide, by decide⟩ ?_
        refine V.is (pc := 26) (len := 364) (hi' := (upR (upR (blk hi 38 (upR C s (updF g k 1000))) 53 (updF B s 1)) 36 f)) k dX2_forbid_26 (kE_38 (by omega)) (rfl) (by omega) (us (by omega) (us (by omega) (ublk (by omega) u1))) ?_
        refine V.aload_n (pc := 27) 0 dX2_forbid_27 rfl ?_
        refine V.gr (pc := 28) 2 1 45 flX2_18 dX2_forbid_28 (kS_36) (by decide) (by decide) rfl (kR_36_1) ?_
        refine V.iload_n (pc := 31) 1 dX2_forbid_31 rfl ?_
        refine V.aald (pc := 32) (o' := ((46 + s))) (len := 7) (t := 2) s dX2_forbid_32 (kS_45) (by decide) (kD_45 (by omega)) (rfl) (by omega) ?_
        refine V.iload_n (pc := 33) 2 dX2_forbid_33 rfl ?_
        refine V.lconst (pc := 34) (z := 0) dX2_forbid_34 (by decide +kernel) ⟨by decide, by decide⟩ ?_
        refine V.js (pc := 35) (len := 364) (hl' := (upR (blk hl 46 (upR N s (updF m k 0))) 36 fl)) k dX2_forbid_35 (kE_46 (by omega)) (rfl) (by omega) (us (by omega) (ublk (by omega) u1)) ?_
        refine V.iinc (pc := 36) (r := ((k + 1 : Nat) : Int)) 2 dX2_forbid_36 rfl (w32_of (by omega) (by omega) (by omega)) (by decide) (ls' := [(2, vI ((k + 1 : Nat) : Int)), (0, vR 36), (1, vI ((s : Nat) : Int))]) rfl ?_
        refine V.goto (pc := 39) 9 dX2_forbid_39 (by decide) ?_
        refine V.locs [1, 2, 0] (ls' := [(0, vR 36), (1, vI ((s : Nat) : Int)), (2, vI ((k + 1 : Nat) : Int))]) rfl ?_
        exact ih9 (k + 1) (updF g k 1000) (updF m k 0) (by omega) (fun j hj => by by_cases e : j = k; { subst e; rw [updF_s, updF_s]; exact ⟨rfl, rfl⟩ }; { rw [updF_n e, updF_n e]; exact hC j (by omega) }) (by omega)
  refine V.locs [1, 2, 0] (ls' := [(0, vR 36), (1, vI ((s : Nat) : Int)), (2, vI 0)]) rfl ?_
  exact lp9 _ 0 (C s) (N s) (by omega) (fun j hj => absurd hj (Nat.not_lt_zero j)) (Nat.lt_succ_self _)

set_option maxRecDepth 100000 in
theorem c_X2_bind_36 (hi hl C N : HI) (B f fl : Nat → Int) (s : Nat) (hs : s ≤ 6) (w : Nat) (hw : w < 364) (Q : QT) (hq : ∀ g m : Nat → Int, (∀ v, v < 364 → g v = (if v = w then 0 else 1000) ∧ m v = (if v = w then 1 else 0)) → Q none KW (upR (upR (blk hi 38 (upR C s g)) 53 (updF B s 1)) 36 f) (upR (blk hl 46 (upR N s m)) 36 fl)) : Con eX2_bind [vR 36, vI (s : Nat), vI (w : Nat)] KW (upR (upR (blk hi 38 C) 53 B) 36 f) (upR (blk hl 46 N) 36 fl) Q := by
  refine Con.ofV (by decide +kernel) (Nat.le_of_ble_eq_true rfl) ?_
  show V eX2_bind none KW 0 [(0, vR 36), (1, vI ((s : Nat) : Int)), (2, vI ((w : Nat) : Int))] [] (upR (upR (blk hi 38 C) 53 B) 36 f) (upR (blk hl 46 N) 36 fl) 0 0 Q
  refine V.aload_n (pc := 0) 0 dX2_bind_0 rfl ?_
  refine V.iload_n (pc := 1) 1 dX2_bind_1 rfl ?_
  refine V.callV (pc := 2) (e1 := eX2_forbid) (o := 36) (c := 2) 1 [vI ((s : Nat) : Int)] [] mfX2_forbid slX2_forbid mlX2_91 dX2_bind_2 (kS_36) (by decide) rfl rfl rfl (Nat.le_of_ble_eq_true rfl) ⟨by decide, by decide, by decide, by decide⟩ ?_
  refine c_X2_forbid_36 hi hl C N B f fl s (by omega) _ (fun g1 m1 hf => ?_)
  refine V.qV (pc := 2) rfl rfl ?_
  refine V.iload_n (pc := 5) 2 dX2_bind_5 rfl ?_
  refine V.if_lt (pc := 6) 16 dX2_bind_6 (by decide) (fun hc => by exfalso; omega) (fun h6 => ?_)
  refine V.iload_n (pc := 9) 2 dX2_bind_9 rfl ?_
  refine V.sipush (pc := 10) (z := 364) dX2_bind_10 (by decide +kernel) ⟨by decide, by decide⟩ ?_
  refine V.icmp_lt (pc := 13) 17 dX2_bind_13 (by decide) (fun h13 => ?_) (fun hc => by exfalso; omega)
  refine V.aload_n (pc := 17) 0 dX2_bind_17 rfl ?_
  refine V.gr (pc := 18) 2 0 37 flX2_11 dX2_bind_18 (kS_36) (by decide) (by decide) rfl (kR_36_0) ?_
  refine V.iload_n (pc := 21) 1 dX2_bind_21 rfl ?_
  refine V.aald (pc := 22) (o' := ((38 + s))) (len := 7) (t := 1) s dX2_bind_22 (kS_37) (by decide) (kD_37 (by omega)) (rfl) (by omega) ?_
  refine V.iload_n (pc := 23) 2 dX2_bind_23 rfl ?_
  refine V.iconst (pc := 24) (z := 0) dX2_bind_24 rfl ⟨by decide, by decide⟩ ?_
  refine V.is (pc := 25) (len := 364) (hi' := (upR (upR (blk hi 38 (upR C s (updF g1 w 0))) 53 (updF B s 1)) 36 f)) w dX2_bind_25 (kE_38 (by omega)) (rfl) (by omega) (us (by omega) (us (by omega) (ublk (by omega) u1))) ?_
  refine V.aload_n (pc := 26) 0 dX2_bind_26 rfl ?_
  refine V.gr (pc := 27) 2 1 45 flX2_18 dX2_bind_27 (kS_36) (by decide) (by decide) rfl (kR_36_1) ?_
  refine V.iload_n (pc := 30) 1 dX2_bind_30 rfl ?_
  refine V.aald (pc := 31) (o' := ((46 + s))) (len := 7) (t := 2) s dX2_bind_31 (kS_45) (by decide) (kD_45 (by omega)) (rfl) (by omega) ?_
  refine V.iload_n (pc := 32) 2 dX2_bind_32 rfl ?_
  refine V.lconst (pc := 33) (z := 1) dX2_bind_33 (by decide +kernel) ⟨by decide, by decide⟩ ?_
  refine V.js (pc := 34) (len := 364) (hl' := (upR (blk hl 46 (upR N s (updF m1 w 1))) 36 fl)) w dX2_bind_34 (kE_46 (by omega)) (rfl) (by omega) (us (by omega) (ublk (by omega) u1)) ?_
  refine V.vret (pc := 35) dX2_bind_35 rfl ?_
  exact hq _ _ (fun v hv => by
    by_cases e : v = w
    · rw [if_pos e, if_pos e, e, updF_s, updF_s]; exact ⟨rfl, rfl⟩
    · rw [if_neg e, if_neg e, updF_n e, updF_n e]; exact hf v hv)

set_option maxRecDepth 100000 in
theorem c_X2_weigh_36 (hi hl C N : HI) (B f fl : Nat → Int) (hT : TB (hi 2) (hi 3)) (h so v : Nat) (hh : h ≤ 6) (hso : so ≤ 4) (hv : v < 364) (hb : ∀ j, j < 364 → 0 ≤ C h j ∧ C h j ≤ 1000) (Q : QT) (hq : ∀ f' fl' : Nat → Int, f' 3 = (wg (C h) (N h) so v).1 → fl' 4 = (wg (C h) (N h) so v).2 → Q none KW (upR (upR (blk hi 38 C) 53 B) 36 f') (upR (blk hl 46 N) 36 fl')) : Con eX2_weigh [vR 36, vI (h : Nat), vI (so : Nat), vI (v : Nat), vR 1] KW (upR (upR (blk hi 38 C) 53 B) 36 f) (upR (blk hl 46 N) 36 fl) Q := by
  refine Con.ofV (by decide +kernel) (Nat.le_of_ble_eq_true rfl) ?_
  show V eX2_weigh none KW 0 [(0, vR 36), (1, vI ((h : Nat) : Int)), (2, vI ((so : Nat) : Int)), (3, vI ((v : Nat) : Int)), (4, vR 1)] [] (upR (upR (blk hi 38 C) 53 B) 36 f) (upR (blk hl 46 N) 36 fl) 0 0 Q
  refine V.aload_n (pc := 0) 0 dX2_weigh_0 rfl ?_
  refine V.aload_n (pc := 1) 0 dX2_weigh_1 rfl ?_
  refine V.gr (pc := 2) 2 0 37 flX2_11 dX2_weigh_2 (kS_36) (by decide) (by decide) rfl (kR_36_0) ?_
  refine V.iload_n (pc := 5) 1 dX2_weigh_5 rfl ?_
  refine V.aald (pc := 6) (o' := ((38 + h))) (len := 7) (t := 1) h dX2_weigh_6 (kS_37) (by decide) (kD_37 (by omega)) (rfl) (by omega) ?_
  refine V.iload_n (pc := 7) 3 dX2_weigh_7 rfl ?_
  refine V.ia (pc := 8) (len := 364) v ((C h) v) dX2_weigh_8 (kE_38 (by omega)) (rfl) (by omega) (by rw [upR_n (by omega), upR_n (by omega), blk_in (by omega)]) ?_
  refine V.pi (pc := 9) (hi' := (upR (upR (blk hi 38 C) 53 B) 36 (updF f 3 ((C h) v)))) 2 3 flX2_25 dX2_weigh_9 (kS_36) (by decide) (by decide) rfl rfl u1 ?_
  refine V.aload_n (pc := 12) 0 dX2_weigh_12 rfl ?_
  refine V.aload_n (pc := 13) 0 dX2_weigh_13 rfl ?_
  refine V.gr (pc := 14) 2 1 45 flX2_18 dX2_weigh_14 (kS_36) (by decide) (by decide) rfl (kR_36_1) ?_
  refine V.iload_n (pc := 17) 1 dX2_weigh_17 rfl ?_
  refine V.aald (pc := 18) (o' := ((46 + h))) (len := 7) (t := 2) h dX2_weigh_18 (kS_45) (by decide) (kD_45 (by omega)) (rfl) (by omega) ?_
  refine V.iload_n (pc := 19) 3 dX2_weigh_19 rfl ?_
  refine V.la (pc := 20) (len := 364) v ((N h) v) dX2_weigh_20 (kE_46 (by omega)) (rfl) (by omega) (by rw [upR_n (by omega), blk_in (by omega)]) ?_
  refine V.pj (pc := 21) (hl' := (upR (blk hl 46 N) 36 (updF fl 4 ((N h) v)))) 2 4 flX2_29 dX2_weigh_21 (kS_36) (by decide) (by decide) rfl rfl u1 ?_
  refine V.aload (pc := 24) 4 dX2_weigh_24 rfl ?_
  refine V.iload_n (pc := 26) 2 dX2_weigh_26 rfl ?_
  refine V.iload_n (pc := 27) 3 dX2_weigh_27 rfl ?_
  refine V.callV (pc := 28) (e1 := eX4_count) (o := 1) (c := 4) 2 [vI ((so : Nat) : Int), vI ((v : Nat) : Int)] [] mfX4_count slX4_count mlX2_109 dX2_weigh_28 (kS_1) (by decide) rfl rfl rfl (Nat.le_of_ble_eq_true rfl) ⟨by decide, by decide, by decide, by decide⟩ ?_
  refine c_X4_count (upR (upR (blk hi 38 C) 53 B) 36 (updF f 3 ((C h) v))) (upR (blk hl 46 N) 36 (updF fl 4 ((N h) v))) (hT) so v (by omega) (by omega) _ ?_
  refine V.qI (pc := 28) rfl rfl ?_
  refine V.istore (pc := 31) (i := 5) dX2_weigh_31 (by decide) (ls' := [(5, vI ((slN so v : Nat) : Int)), (0, vR 36), (1, vI ((h : Nat) : Int)), (2, vI ((so : Nat) : Int)), (3, vI ((v : Nat) : Int)), (4, vR 1)]) rfl ?_
  refine V.iconst (pc := 33) (z := 1) dX2_weigh_33 rfl ⟨by decide, by decide⟩ ?_
  refine V.istore (pc := 34) (i := 6) dX2_weigh_34 (by decide) (ls' := [(6, vI 1), (5, vI ((slN so v : Nat) : Int)), (0, vR 36), (1, vI ((h : Nat) : Int)), (2, vI ((so : Nat) : Int)), (3, vI ((v : Nat) : Int)), (4, vR 1)]) rfl ?_
  have lp36 : ∀ (fu36 : Nat) (k : Nat) (f1 : Nat → Int) (fl1 : Nat → Int), (k ≤ slN so v) → (f1 3 = (wgs (C h) (N h) so v k).1) → (fl1 4 = (wgs (C h) (N h) so v k).2) → slN so v - k < fu36 → V eX2_weigh none KW 36 [(0, vR 36), (1, vI ((h : Nat) : Int)), (2, vI ((so : Nat) : Int)), (3, vI ((v : Nat) : Int)), (4, vR 1), (5, vI ((slN so v : Nat) : Int)), (6, vI ((k + 1 : Nat) : Int))] [] (upR (upR (blk hi 38 C) 53 B) 36 f1) (upR (blk hl 46 N) 36 fl1) 0 0 Q := by
    intro fu36
    induction fu36 with
    | zero => intro k f1 fl1 hk h3 h4 hm36; exact absurd hm36 (Nat.not_lt_zero _)
    | succ fu36 ih36 =>
      intro k f1 fl1 hk h3 h4 hm36
      have hnl := nth_lt (n := k + 1) hso hv
      have hcx := hb _ hnl
      have hwb := wgs_b (n := N h) hso hv hb k
      have h15 := slN_15 hso hv
      refine V.iload (pc := 36) 6 dX2_weigh_36 rfl ?_
      refine V.iload (pc := 38) 5 dX2_weigh_38 rfl ?_
      refine V.icmp_gt (pc := 40) 146 dX2_weigh_40 (by decide) (fun h40 => ?_) (fun h40 => ?_)
      · skip
        refine V.vret (pc := 146) dX2_weigh_146 rfl ?_
        have e : k = slN so v := by omega
        exact hq _ _ (by unfold wg; rw [← e]; exact h3) (by unfold wg; rw [← e]; exact h4)
      · skip
        refine V.aload (pc := 43) 4 dX2_weigh_43 rfl ?_
        refine V.iload_n (pc := 45) 2 dX2_weigh_45 rfl ?_
        refine V.iload_n (pc := 46) 3 dX2_weigh_46 rfl ?_
        refine V.iload (pc := 47) 6 dX2_weigh_47 rfl ?_
        refine V.callV (pc := 49) (e1 := eX4_numbered) (o := 1) (c := 4) 3 [vI ((so : Nat) : Int), vI ((v : Nat) : Int), vI ((k + 1 : Nat) : Int)] [] mfX4_numbered slX4_numbered mlX2_114 dX2_weigh_49 (kS_1) (by decide) rfl rfl rfl (Nat.le_of_ble_eq_true rfl) ⟨by decide, by decide, by decide, by decide⟩ ?_
        refine c_X4_numbered (upR (upR (blk hi 38 C) 53 B) 36 f1) (upR (blk hl 46 N) 36 fl1) (hT) so v (k + 1) (by omega) (by omega) _ ?_
        refine V.qI (pc := 49) rfl rfl ?_
        refine V.istore (pc := 52) (i := 7) dX2_weigh_52 (by decide) (ls' := [(7, vI ((nth so v (k + 1) : Nat) : Int)), (0, vR 36), (1, vI ((h : Nat) : Int)), (2, vI ((so : Nat) : Int)), (3, vI ((v : Nat) : Int)), (4, vR 1), (5, vI ((slN so v : Nat) : Int)), (6, vI ((k + 1 : Nat) : Int))]) rfl ?_
        refine V.iload (pc := 54) 0 dX2_weigh_54 rfl ?_
        refine V.if_lt (pc := 56) 140 dX2_weigh_56 (by decide) (fun hc => by exfalso; omega) (fun h56 => ?_)
        refine V.iload (pc := 59) 0 dX2_weigh_59 rfl ?_
        refine V.sipush (pc := 61) (z := 364) dX2_weigh_61 (by decide +kernel) ⟨by decide, by decide⟩ ?_
        refine V.icmp_lt (pc := 64) 70 dX2_weigh_64 (by decide) (fun h64 => ?_) (fun hc => by exfalso; omega)
        refine V.aload_n (pc := 70) 1 dX2_weigh_70 rfl ?_
        refine V.gr (pc := 71) 2 0 37 flX2_11 dX2_weigh_71 (kS_36) (by decide) (by decide) rfl (kR_36_0) ?_
        refine V.iload_n (pc := 74) 2 dX2_weigh_74 rfl ?_
        refine V.aald (pc := 75) (o' := ((38 + h))) (len := 7) (t := 1) h dX2_weigh_75 (kS_37) (by decide) (kD_37 (by omega)) (rfl) (by omega) ?_
        refine V.iload (pc := 76) 0 dX2_weigh_76 rfl ?_
        refine V.ia (pc := 78) (len := 364) (nth so v (k + 1)) ((C h) (nth so v (k + 1))) dX2_weigh_78 (kE_38 (by omega)) (rfl) (by omega) (by rw [upR_n (by omega), upR_n (by omega), blk_in (by omega)]) ?_
        refine V.iconst (pc := 79) (z := 1) dX2_weigh_79 rfl ⟨by decide, by decide⟩ ?_
        refine V.iadd (pc := 80) (((C h (nth so v (k + 1))) + 1)) dX2_weigh_80 (w32_of (by omega) (by omega) (by omega)) ?_
        refine V.istore (pc := 81) (i := 8) dX2_weigh_81 (by decide) (ls' := [(8, vI ((C h (nth so v (k + 1))) + 1)), (7, vI ((nth so v (k + 1) : Nat) : Int)), (0, vR 36), (1, vI ((h : Nat) : Int)), (2, vI ((so : Nat) : Int)), (3, vI ((v : Nat) : Int)), (4, vR 1), (5, vI ((slN so v : Nat) : Int)), (6, vI ((k + 1 : Nat) : Int))]) rfl ?_
        refine V.iload (pc := 83) 0 dX2_weigh_83 rfl ?_
        refine V.aload_n (pc := 85) 2 dX2_weigh_85 rfl ?_
        refine V.gi (pc := 86) 2 3 ((wgs (C h) (N h) so v k).1) flX2_25 dX2_weigh_86 (kS_36) (by decide) (by decide) rfl (h3) ?_
        refine V.icmp_le (pc := 89) 95 dX2_weigh_89 (by decide) (fun h89 => ?_) (fun h89 => ?_)
        · skip
          refine V.aload_n (pc := 95) 2 dX2_weigh_95 rfl ?_
          refine V.iload (pc := 96) 0 dX2_weigh_96 rfl ?_
          refine V.aload_n (pc := 98) 2 dX2_weigh_98 rfl ?_
          refine V.gi (pc := 99) 2 3 ((wgs (C h) (N h) so v k).1) flX2_25 dX2_weigh_99 (kS_36) (by decide) (by decide) rfl (h3) ?_
          refine V.icmp_ge (pc := 102) 117 dX2_weigh_102 (by decide) (fun h102 => ?_) (fun h102 => ?_)
          · skip
            refine V.aload_n (pc := 117) 2 dX2_weigh_117 rfl ?_
            refine V.gj (pc := 118) 2 4 (fl1 4) flX2_29 dX2_weigh_118 (kS_36) (by decide) (by decide) rfl (rfl) ?_
            refine V.aload_n (pc := 121) 2 dX2_weigh_121 rfl ?_
            refine V.gr (pc := 122) 2 1 45 flX2_18 dX2_weigh_122 (kS_36) (by decide) (by decide) rfl (kR_36_1) ?_
            refine V.iload_n (pc := 125) 3 dX2_weigh_125 rfl ?_
            refine V.aald (pc := 126) (o' := ((46 + h))) (len := 7) (t := 2) h dX2_weigh_126 (kS_45) (by decide) (kD_45 (by omega)) (rfl) (by omega) ?_
            refine V.iload (pc := 127) 1 dX2_weigh_127 rfl ?_
            refine V.la (pc := 129) (len := 364) (nth so v (k + 1)) ((N h) (nth so v (k + 1))) dX2_weigh_129 (kE_46 (by omega)) (rfl) (by omega) (by rw [upR_n (by omega), blk_in (by omega)]) ?_
            refine V.ladd (pc := 130) ((w64 ((wgs (C h) (N h) so v k).2 + (N h (nth so v (k + 1)))))) dX2_weigh_130 (by rw [h4]) ?_
            refine V.pj (pc := 131) (hl' := (upR (blk hl 46 N) 36 (updF fl1 4 (w64 ((wgs (C h) (N h) so v k).2 + (N h (nth so v (k + 1)))))))) 2 4 flX2_29 dX2_weigh_131 (kS_36) (by decide) (by decide) rfl rfl u1 ?_
            refine V.aload_n (pc := 134) 2 dX2_weigh_134 rfl ?_
            refine V.iload (pc := 135) 0 dX2_weigh_135 rfl ?_
            refine V.pi (pc := 137) (hi' := (upR (upR (blk hi 38 C) 53 B) 36 (updF f1 3 ((C h (nth so v (k + 1))) + 1)))) 2 3 flX2_25 dX2_weigh_137 (kS_36) (by decide) (by decide) rfl rfl u1 ?_
            refine V.iinc (pc := 140) (r := ((k + 1 + 1 : Nat) : Int)) 8 dX2_weigh_140 rfl (w32_of (by omega) (by omega) (by omega)) (by decide) (ls' := [(6, vI ((k + 1 + 1 : Nat) : Int)), (8, vI ((C h (nth so v (k + 1))) + 1)), (7, vI ((nth so v (k + 1) : Nat) : Int)), (0, vR 36), (1, vI ((h : Nat) : Int)), (2, vI ((so : Nat) : Int)), (3, vI ((v : Nat) : Int)), (4, vR 1), (5, vI ((slN so v : Nat) : Int))]) rfl ?_
            refine V.goto (pc := 143) 36 dX2_weigh_143 (by decide) ?_
            refine V.locs [3, 4, 5, 6, 7, 8, 0] (ls' := [(0, vR 36), (1, vI ((h : Nat) : Int)), (2, vI ((so : Nat) : Int)), (3, vI ((v : Nat) : Int)), (4, vR 1), (5, vI ((slN so v : Nat) : Int)), (6, vI ((k + 1 + 1 : Nat) : Int))]) rfl ?_
            exact ih36 (k + 1) (updF f1 3 ((C h (nth so v (k + 1))) + 1)) (updF fl1 4 (w64 ((wgs (C h) (N h) so v k).2 + (N h (nth so v (k + 1)))))) (by omega) (by rw [wgs_eq (by omega) (by omega), updF_s]) (by rw [wgs_eq (by omega) (by omega), updF_s]) (by omega)
          · skip
            refine V.aload_n (pc := 105) 2 dX2_weigh_105 rfl ?_
            refine V.gr (pc := 106) 2 1 45 flX2_18 dX2_weigh_106 (kS_36) (by decide) (by decide) rfl (kR_36_1) ?_
            refine V.iload_n (pc := 109) 3 dX2_weigh_109 rfl ?_
            refine V.aald (pc := 110) (o' := ((46 + h))) (len := 7) (t := 2) h dX2_weigh_110 (kS_45) (by decide) (kD_45 (by omega)) (rfl) (by omega) ?_
            refine V.iload (pc := 111) 1 dX2_weigh_111 rfl ?_
            refine V.la (pc := 113) (len := 364) (nth so v (k + 1)) ((N h) (nth so v (k + 1))) dX2_weigh_113 (kE_46 (by omega)) (rfl) (by omega) (by rw [upR_n (by omega), blk_in (by omega)]) ?_
            refine V.goto (pc := 114) 131 dX2_weigh_114 (by decide) ?_
            refine V.pj (pc := 131) (hl' := (upR (blk hl 46 N) 36 (updF fl1 4 ((N h) (nth so v (k + 1)))))) 2 4 flX2_29 dX2_weigh_131 (kS_36) (by decide) (by decide) rfl rfl u1 ?_
            refine V.aload_n (pc := 134) 2 dX2_weigh_134 rfl ?_
            refine V.iload (pc := 135) 0 dX2_weigh_135 rfl ?_
            refine V.pi (pc := 137) (hi' := (upR (upR (blk hi 38 C) 53 B) 36 (updF f1 3 ((C h (nth so v (k + 1))) + 1)))) 2 3 flX2_25 dX2_weigh_137 (kS_36) (by decide) (by decide) rfl rfl u1 ?_
            refine V.iinc (pc := 140) (r := ((k + 1 + 1 : Nat) : Int)) 8 dX2_weigh_140 rfl (w32_of (by omega) (by omega) (by omega)) (by decide) (ls' := [(6, vI ((k + 1 + 1 : Nat) : Int)), (8, vI ((C h (nth so v (k + 1))) + 1)), (7, vI ((nth so v (k + 1) : Nat) : Int)), (0, vR 36), (1, vI ((h : Nat) : Int)), (2, vI ((so : Nat) : Int)), (3, vI ((v : Nat) : Int)), (4, vR 1), (5, vI ((slN so v : Nat) : Int))]) rfl ?_
            refine V.goto (pc := 143) 36 dX2_weigh_143 (by decide) ?_
            refine V.locs [3, 4, 5, 6, 7, 8, 0] (ls' := [(0, vR 36), (1, vI ((h : Nat) : Int)), (2, vI ((so : Nat) : Int)), (3, vI ((v : Nat) : Int)), (4, vR 1), (5, vI ((slN so v : Nat) : Int)), (6, vI ((k + 1 + 1 : Nat) : Int))]) rfl ?_
            exact ih36 (k + 1) (updF f1 3 ((C h (nth so v (k + 1))) + 1)) (updF fl1 4 ((N h) (nth so v (k + 1)))) (by omega) (by rw [wgs_lt (by omega), updF_s]) (by rw [wgs_lt (by omega), updF_s]) (by omega)
        · skip
          refine V.goto (pc := 92) 140 dX2_weigh_92 (by decide) ?_
          refine V.iinc (pc := 140) (r := ((k + 1 + 1 : Nat) : Int)) 8 dX2_weigh_140 rfl (w32_of (by omega) (by omega) (by omega)) (by decide) (ls' := [(6, vI ((k + 1 + 1 : Nat) : Int)), (8, vI ((C h (nth so v (k + 1))) + 1)), (7, vI ((nth so v (k + 1) : Nat) : Int)), (0, vR 36), (1, vI ((h : Nat) : Int)), (2, vI ((so : Nat) : Int)), (3, vI ((v : Nat) : Int)), (4, vR 1), (5, vI ((slN so v : Nat) : Int))]) rfl ?_
          refine V.goto (pc := 143) 36 dX2_weigh_143 (by decide) ?_
          refine V.locs [3, 4, 5, 6, 7, 8, 0] (ls' := [(0, vR 36), (1, vI ((h : Nat) : Int)), (2, vI ((so : Nat) : Int)), (3, vI ((v : Nat) : Int)), (4, vR 1), (5, vI ((slN so v : Nat) : Int)), (6, vI ((k + 1 + 1 : Nat) : Int))]) rfl ?_
          exact ih36 (k + 1) f1 fl1 (by omega) (by rw [wgs_skip (by omega)]; exact h3) (by rw [wgs_skip (by omega)]; exact h4) (by omega)
  refine V.locs [2, 3, 4, 5, 6, 1, 0] (ls' := [(0, vR 36), (1, vI ((h : Nat) : Int)), (2, vI ((so : Nat) : Int)), (3, vI ((v : Nat) : Int)), (4, vR 1), (5, vI ((slN so v : Nat) : Int)), (6, vI 1)]) rfl ?_
  exact lp36 _ 0 (updF f 3 ((C h) v)) (updF fl 4 ((N h) v)) (by omega) (by show updF f 3 (C h v) 3 = C h v; rw [updF_s]) (by show updF fl 4 (N h v) 4 = N h v; rw [updF_s]) (Nat.lt_succ_self _)

set_option maxRecDepth 100000 in
theorem c_X2_goBack_36 (hi hl C N : HI) (B f fl : Nat → Int) (hT : TB (hi 2) (hi 3)) (s h so : Nat) (hs : s ≤ 6) (hh : h ≤ 5) (hne : s ≠ h) (hso : so ≤ 4) (hsr : hi 11 h = (so : Nat)) (hbd : ∀ t, t ≤ 6 → ∀ j, j < 364 → 0 ≤ C t j ∧ C t j ≤ 1000) (b : Bool) (hB : B h = b2i b) (Q : QT) (hqF : b = false → Q none KW (upR (upR (blk hi 38 C) 53 B) 36 f) (upR (blk hl 46 N) 36 fl)) (hqT : b = true → ∀ g m g2 m2 f' fl' : Nat → Int, (∀ v, v < 364 → g v = gbC (C h) (N h) (C s) so v ∧ m v = gbN (C h) (N h) (N s) so v) → (∀ v, v < 364 → g2 v = 0 ∧ m2 v = 1) → Q none KW (upR (upR (blk hi 38 (upR (upR C s g) h g2)) 53 (updF (updF B s 1) h 0)) 36 f') (upR (blk hl 46 (upR (upR N s m) h m2)) 36 fl')) : Con eX2_goBack [vR 36, vI (s : Nat), vI (h : Nat), vR 11, vR 1] KW (upR (upR (blk hi 38 C) 53 B) 36 f) (upR (blk hl 46 N) 36 fl) Q := by
  refine Con.ofV (by decide +kernel) (Nat.le_of_ble_eq_true rfl) ?_
  show V eX2_goBack none KW 0 [(0, vR 36), (1, vI ((s : Nat) : Int)), (2, vI ((h : Nat) : Int)), (3, vR 11), (4, vR 1)] [] (upR (upR (blk hi 38 C) 53 B) 36 f) (upR (blk hl 46 N) 36 fl) 0 0 Q
  refine V.hieq (hi' := (upR (upR (blk hi 38 (upR C s (C s))) 53 B) 36 f)) (by rw [upR_id]) ?_
  refine V.hleq (hl' := (upR (blk hl 46 (upR N s (N s))) 36 fl)) (by rw [upR_id]) ?_
  refine V.iload_n (pc := 0) 1 dX2_goBack_0 rfl ?_
  refine V.if_lt (pc := 1) 26 dX2_goBack_1 (by decide) (fun hc => by exfalso; omega) (fun h1 => ?_)
  refine V.iload_n (pc := 4) 1 dX2_goBack_4 rfl ?_
  refine V.bipush (pc := 5) (z := 6) dX2_goBack_5 (by decide +kernel) ⟨by decide, by decide⟩ ?_
  refine V.icmp_gt (pc := 7) 26 dX2_goBack_7 (by decide) (fun hc => by exfalso; omega) (fun h7 => ?_)
  refine V.iload_n (pc := 10) 2 dX2_goBack_10 rfl ?_
  refine V.callS (pc := 11) (e1 := eX7_isBird) 1 [vI ((h : Nat) : Int)] [] mfX7_isBird slX7_isBird mlX2_101 dX2_goBack_11 rfl rfl (Nat.le_of_ble_eq_true rfl) ⟨by decide, by decide, by decide, by decide⟩ ?_
  refine c_X7_isBird KW (upR (upR (blk hi 38 (upR C s (C s))) 53 B) 36 f) (upR (blk hl 46 (upR N s (N s))) 36 fl) ((h : Nat) : Int) _ (fun hb => ?_) (fun hb => absurd hb (by omega))
  · skip
    refine V.qI (pc := 11) rfl rfl ?_
    refine V.if_eq (pc := 14) 26 dX2_goBack_14 (by decide) (fun hc => by exact absurd hc (by decide)) (fun h14 => ?_)
    refine V.aload_n (pc := 17) 0 dX2_goBack_17 rfl ?_
    refine V.gr (pc := 18) 2 2 53 flX2_21 dX2_goBack_18 (kS_36) (by decide) (by decide) rfl (kR_36_2) ?_
    refine V.iload_n (pc := 21) 2 dX2_goBack_21 rfl ?_
    refine V.za (pc := 22) (len := 7) h (b2i b) dX2_goBack_22 (kS_53) (rfl) (by omega) (hB) ?_
    refine V.if_ne (pc := 23) 27 dX2_goBack_23 (by decide) (fun h23 => ?_) (fun h23 => ?_)
    · have hbt : b = true := b2i_T h23
      refine V.iconst (pc := 27) (z := 0) dX2_goBack_27 rfl ⟨by decide, by decide⟩ ?_
      refine V.istore (pc := 28) (i := 5) dX2_goBack_28 (by decide) (ls' := [(5, vI 0), (0, vR 36), (1, vI ((s : Nat) : Int)), (2, vI ((h : Nat) : Int)), (3, vR 11), (4, vR 1)]) rfl ?_
      have lp30 : ∀ (fu30 : Nat) (k : Nat) (g : Nat → Int) (m : Nat → Int) (f1 : Nat → Int) (fl1 : Nat → Int), (k ≤ 364) → (∀ j, j < k → g j = (gbC (C h) (N h) (C s) so j) ∧ m j = (gbN (C h) (N h) (N s) so j)) → (∀ j, k ≤ j → g j = C s j ∧ m j = N s j) → 364 - k < fu30 → V eX2_goBack none KW 30 [(0, vR 36), (1, vI ((s : Nat) : Int)), (2, vI ((h : Nat) : Int)), (3, vR 11), (4, vR 1), (5, vI ((k : Nat) : Int))] [] (upR (upR (blk hi 38 (upR C s g)) 53 B) 36 f1) (upR (blk hl 46 (upR N s m)) 36 fl1) 0 0 Q := by
        intro fu30
        induction fu30 with
        | zero => intro k g m f1 fl1 hk h3 h4 hm30; exact absurd hm30 (Nat.not_lt_zero _)
        | succ fu30 ih30 =>
          intro k g m f1 fl1 hk h3 h4 hm30
          refine V.iload (pc := 30) 5 dX2_goBack_30 rfl ?_
          refine V.sipush (pc := 32) (z := 364) dX2_goBack_32 (by decide +kernel) ⟨by decide, by decide⟩ ?_
          refine V.icmp_ge (pc := 35) 101 dX2_goBack_35 (by decide) (fun h35 => ?_) (fun h35 => ?_)
          · skip
            refine V.aload_n (pc := 101) 0 dX2_goBack_101 rfl ?_
            refine V.gr (pc := 102) 2 2 53 flX2_21 dX2_goBack_102 (kS_36) (by decide) (by decide) rfl (kR_36_2) ?_
            refine V.iload_n (pc := 105) 1 dX2_goBack_105 rfl ?_
            refine V.iconst (pc := 106) (z := 1) dX2_goBack_106 rfl ⟨by decide, by decide⟩ ?_
            refine V.zs (pc := 107) (len := 7) (hi' := (upR (upR (blk hi 38 (upR C s g)) 53 (updF B s 1)) 36 f1)) s dX2_goBack_107 (kS_53) (rfl) (by omega) (Or.inr rfl) (us (by decide) u1) ?_
            refine V.aload_n (pc := 108) 0 dX2_goBack_108 rfl ?_
            refine V.iload_n (pc := 109) 2 dX2_goBack_109 rfl ?_
            refine V.callV (pc := 110) (e1 := eX2_free) (o := 36) (c := 2) 1 [vI ((h : Nat) : Int)] [] mfX2_free slX2_free mlX2_45 dX2_goBack_110 (kS_36) (by decide) rfl rfl rfl (Nat.le_of_ble_eq_true rfl) ⟨by decide, by decide, by decide, by decide⟩ ?_
            refine c_X2_free_36 hi hl (upR C s g) (upR N s m) (updF B s 1) f1 fl1 h (by omega) _ (fun g2 m2 hf2 => ?_)
            refine V.qV (pc := 110) rfl rfl ?_
            refine V.vret (pc := 113) dX2_goBack_113 rfl ?_
            exact hqT hbt _ _ _ _ _ _ (fun j hj => h3 j (by omega)) hf2
          · skip
            refine V.aload_n (pc := 38) 0 dX2_goBack_38 rfl ?_
            refine V.iload_n (pc := 39) 2 dX2_goBack_39 rfl ?_
            refine V.aload_n (pc := 40) 3 dX2_goBack_40 rfl ?_
            refine V.iload_n (pc := 41) 2 dX2_goBack_41 rfl ?_
            refine V.ia (pc := 42) (len := 6) h ((so : Nat) : Int) dX2_goBack_42 (kS_11) (rfl) (by omega) (hsr) ?_
            refine V.iload (pc := 43) 5 dX2_goBack_43 rfl ?_
            refine V.aload (pc := 45) 4 dX2_goBack_45 rfl ?_
            refine V.callV (pc := 47) (e1 := eX2_weigh) (o := 36) (c := 2) 4 [vI ((h : Nat) : Int), vI ((so : Nat) : Int), vI ((k : Nat) : Int), vR 1] [] mfX2_weigh slX2_weigh mlX2_105 dX2_goBack_47 (kS_36) (by decide) rfl rfl rfl (Nat.le_of_ble_eq_true rfl) ⟨by decide, by decide, by decide, by decide⟩ ?_
            refine c_X2_weigh_36 hi hl (upR C s g) (upR N s m) B f1 fl1 hT h so k (by omega) (by omega) (by omega) (by rw [upR_n (Ne.symm hne)]; exact hbd h (by omega)) _ (fun f2 fl2 hw1 hw2 => ?_)
            refine V.qV (pc := 47) rfl rfl ?_
            rw [upR_n (Ne.symm hne), upR_n (Ne.symm hne)] at hw1 hw2
            have hwb := wg_b (n := N h) hso (show k < 364 by omega) (hbd h (by omega))
            have hcs := hbd s hs k (by omega)
            have h4k := h4 k (Nat.le_refl k)
            refine V.aload_n (pc := 50) 0 dX2_goBack_50 rfl ?_
            refine V.gr (pc := 51) 2 0 37 flX2_11 dX2_goBack_51 (kS_36) (by decide) (by decide) rfl (kR_36_0) ?_
            refine V.iload_n (pc := 54) 1 dX2_goBack_54 rfl ?_
            refine V.aald (pc := 55) (o' := ((38 + s))) (len := 7) (t := 1) s dX2_goBack_55 (kS_37) (by decide) (kD_37 (by omega)) (rfl) (by omega) ?_
            refine V.iload (pc := 56) 5 dX2_goBack_56 rfl ?_
            refine V.sipush (pc := 58) (z := 1000) dX2_goBack_58 (by decide +kernel) ⟨by decide, by decide⟩ ?_
            refine V.aload_n (pc := 61) 0 dX2_goBack_61 rfl ?_
            refine V.gr (pc := 62) 2 0 37 flX2_11 dX2_goBack_62 (kS_36) (by decide) (by decide) rfl (kR_36_0) ?_
            refine V.iload_n (pc := 65) 1 dX2_goBack_65 rfl ?_
            refine V.aald (pc := 66) (o' := ((38 + s))) (len := 7) (t := 1) s dX2_goBack_66 (kS_37) (by decide) (kD_37 (by omega)) (rfl) (by omega) ?_
            refine V.iload (pc := 67) 5 dX2_goBack_67 rfl ?_
            refine V.ia (pc := 69) (len := 364) k (C s k) dX2_goBack_69 (kE_38 (by omega)) (rfl) (by omega) (by rw [upR_n (by omega), upR_n (by omega), blk_in (by omega), upR_s]; exact h4k.1) ?_
            refine V.aload_n (pc := 70) 0 dX2_goBack_70 rfl ?_
            refine V.gi (pc := 71) 2 3 ((wg (C h) (N h) so k).1) flX2_25 dX2_goBack_71 (kS_36) (by decide) (by decide) rfl (hw1) ?_
            refine V.iadd (pc := 74) (((C s k) + ((wg (C h) (N h) so k).1))) dX2_goBack_74 (w32_of (by omega) (by omega) (by omega)) ?_
            refine V.mmin (pc := 75) ((gbC (C h) (N h) (C s) so k)) mmX2_68 mm_st mm_in mm_cd dX2_goBack_75 (by decide) (Nat.le_of_ble_eq_true rfl) (rfl) ?_
            refine V.is (pc := 78) (len := 364) (hi' := (upR (upR (blk hi 38 (upR C s (updF g k (gbC (C h) (N h) (C s) so k)))) 53 B) 36 f2)) k dX2_goBack_78 (kE_38 (by omega)) (rfl) (by omega) (us (by omega) (us (by omega) (ublk (by omega) u1))) ?_
            refine V.aload_n (pc := 79) 0 dX2_goBack_79 rfl ?_
            refine V.gr (pc := 80) 2 1 45 flX2_18 dX2_goBack_80 (kS_36) (by decide) (by decide) rfl (kR_36_1) ?_
            refine V.iload_n (pc := 83) 1 dX2_goBack_83 rfl ?_
            refine V.aald (pc := 84) (o' := ((46 + s))) (len := 7) (t := 2) s dX2_goBack_84 (kS_45) (by decide) (kD_45 (by omega)) (rfl) (by omega) ?_
            refine V.iload (pc := 85) 5 dX2_goBack_85 rfl ?_
            refine V.dup2 (pc := 87) dX2_goBack_87 rfl rfl ?_
            refine V.la (pc := 88) (len := 364) k (N s k) dX2_goBack_88 (kE_46 (by omega)) (rfl) (by omega) (by rw [upR_n (by omega), blk_in (by omega), upR_s]; exact h4k.2) ?_
            refine V.aload_n (pc := 89) 0 dX2_goBack_89 rfl ?_
            refine V.gj (pc := 90) 2 4 ((wg (C h) (N h) so k).2) flX2_29 dX2_goBack_90 (kS_36) (by decide) (by decide) rfl (hw2) ?_
            refine V.lmul (pc := 93) ((gbN (C h) (N h) (N s) so k)) dX2_goBack_93 rfl ?_
            refine V.js (pc := 94) (len := 364) (hl' := (upR (blk hl 46 (upR N s (updF m k (gbN (C h) (N h) (N s) so k)))) 36 fl2)) k dX2_goBack_94 (kE_46 (by omega)) (rfl) (by omega) (us (by omega) (ublk (by omega) u1)) ?_
            refine V.iinc (pc := 95) (r := ((k + 1 : Nat) : Int)) 5 dX2_goBack_95 rfl (w32_of (by omega) (by omega) (by omega)) (by decide) (ls' := [(5, vI ((k + 1 : Nat) : Int)), (0, vR 36), (1, vI ((s : Nat) : Int)), (2, vI ((h : Nat) : Int)), (3, vR 11), (4, vR 1)]) rfl ?_
            refine V.goto (pc := 98) 30 dX2_goBack_98 (by decide) ?_
            refine V.locs [1, 2, 3, 4, 5, 0] (ls' := [(0, vR 36), (1, vI ((s : Nat) : Int)), (2, vI ((h : Nat) : Int)), (3, vR 11), (4, vR 1), (5, vI ((k + 1 : Nat) : Int))]) rfl ?_
            exact ih30 (k + 1) (updF g k (gbC (C h) (N h) (C s) so k)) (updF m k (gbN (C h) (N h) (N s) so k)) f2 fl2 (by omega) (fun j hj => by by_cases e : j = k; { subst e; rw [updF_s, updF_s]; exact ⟨rfl, rfl⟩ }; { rw [updF_n e, updF_n e]; exact h3 j (by omega) }) (fun j hj => by rw [updF_n (by omega), updF_n (by omega)]; exact h4 j (by omega)) (by omega)
      refine V.locs [1, 2, 3, 4, 5, 0] (ls' := [(0, vR 36), (1, vI ((s : Nat) : Int)), (2, vI ((h : Nat) : Int)), (3, vR 11), (4, vR 1), (5, vI 0)]) rfl ?_
      exact lp30 _ 0 (C s) (N s) f fl (by omega) (fun j hj => absurd hj (Nat.not_lt_zero j)) (fun j hj => ⟨rfl, rfl⟩) (Nat.lt_succ_self _)
    · have hbf : b = false := b2i_F (by omega)
      refine V.vret (pc := 26) dX2_goBack_26 rfl ?_
      rw [upR_id, upR_id]
      exact hqF hbf

set_option maxRecDepth 100000 in
theorem c_X2_someBirdIsBound_36 (hi hl C N : HI) (B f fl : Nat → Int) (b : Nat → Bool) (hB : ∀ s, s ≤ 6 → B s = b2i (b s)) (Q : QT) (hq : Q (some (vI (b2i (anyB b 6)))) KW (upR (upR (blk hi 38 C) 53 B) 36 f) (upR (blk hl 46 N) 36 fl)) : Con eX2_someBirdIsBound [vR 36] KW (upR (upR (blk hi 38 C) 53 B) 36 f) (upR (blk hl 46 N) 36 fl) Q := by
  refine Con.ofV (by decide +kernel) (Nat.le_of_ble_eq_true rfl) ?_
  show V eX2_someBirdIsBound none KW 0 [(0, vR 36)] [] (upR (upR (blk hi 38 C) 53 B) 36 f) (upR (blk hl 46 N) 36 fl) 0 0 Q
  refine V.iconst (pc := 0) (z := 0) dX2_someBirdIsBound_0 rfl ⟨by decide, by decide⟩ ?_
  refine V.istore_n (pc := 1) (i := 1) dX2_someBirdIsBound_1 rfl (by decide) (ls' := [(1, vI 0), (0, vR 36)]) rfl ?_
  have lp2 : ∀ (fu2 : Nat) (k : Nat), (k ≤ 6) → (∀ j, j < k → b j = false) → 6 - k < fu2 → V eX2_someBirdIsBound none KW 2 [(0, vR 36), (1, vI ((k : Nat) : Int))] [] (upR (upR (blk hi 38 C) 53 B) 36 f) (upR (blk hl 46 N) 36 fl) 0 0 Q := by
    intro fu2
    induction fu2 with
    | zero => intro k hk h3 hm2; exact absurd hm2 (Nat.not_lt_zero _)
    | succ fu2 ih2 =>
      intro k hk h3 hm2
      refine V.iload_n (pc := 2) 1 dX2_someBirdIsBound_2 rfl ?_
      refine V.bipush (pc := 3) (z := 6) dX2_someBirdIsBound_3 (by decide +kernel) ⟨by decide, by decide⟩ ?_
      refine V.icmp_ge (pc := 5) 25 dX2_someBirdIsBound_5 (by decide) (fun h5 => ?_) (fun h5 => ?_)
      · skip
        refine V.iconst (pc := 25) (z := 0) dX2_someBirdIsBound_25 rfl ⟨by decide, by decide⟩ ?_
        refine V.zret (pc := 26) (z := 0) dX2_someBirdIsBound_26 rfl (Or.inl rfl) ?_
        rw [anyB_f (fun j (hj : j < 6) => h3 j (by omega))] at hq
        exact hq
      · skip
        refine V.aload_n (pc := 8) 0 dX2_someBirdIsBound_8 rfl ?_
        refine V.gr (pc := 9) 2 2 53 flX2_21 dX2_someBirdIsBound_9 (kS_36) (by decide) (by decide) rfl (kR_36_2) ?_
        refine V.iload_n (pc := 12) 1 dX2_someBirdIsBound_12 rfl ?_
        refine V.za (pc := 13) (len := 7) k (b2i (b k)) dX2_someBirdIsBound_13 (kS_53) (rfl) (by omega) (hB k (by omega)) ?_
        refine V.if_eq (pc := 14) 19 dX2_someBirdIsBound_14 (by decide) (fun h14 => ?_) (fun h14 => ?_)
        · skip
          refine V.iinc (pc := 19) (r := ((k + 1 : Nat) : Int)) 1 dX2_someBirdIsBound_19 rfl (w32_of (by omega) (by omega) (by omega)) (by decide) (ls' := [(1, vI ((k + 1 : Nat) : Int)), (0, vR 36)]) rfl ?_
          refine V.goto (pc := 22) 2 dX2_someBirdIsBound_22 (by decide) ?_
          refine V.locs [1, 0] (ls' := [(0, vR 36), (1, vI ((k + 1 : Nat) : Int))]) rfl ?_
          exact ih2 (k + 1) (by omega) (fun j hj => by by_cases e : j = k; { rw [e]; exact b2i_F h14 }; { exact h3 j (by omega) }) (by omega)
        · skip
          refine V.iconst (pc := 17) (z := 1) dX2_someBirdIsBound_17 rfl ⟨by decide, by decide⟩ ?_
          refine V.zret (pc := 18) (z := 1) dX2_someBirdIsBound_18 rfl (Or.inr rfl) ?_
          rw [anyB_t (show k < 6 by omega) (b2i_T h14)] at hq
          exact hq
  refine V.locs [1, 0] (ls' := [(0, vR 36), (1, vI 0)]) rfl ?_
  exact lp2 _ 0 (by omega) (fun j hj => absurd hj (Nat.not_lt_zero j)) (Nat.lt_succ_self _)

set_option maxRecDepth 100000 in
theorem c_X2_sumUp_36 (hi hl C N : HI) (B f fl : Nat → Int) (hb : ∀ j, j < 364 → 0 ≤ C 6 j ∧ C 6 j ≤ 1000) (Q : QT) (hq : ∀ f' fl' : Nat → Int, f' 5 = mnF (C 6) 364 → f' 6 = (tlA (C 6) (N 6) (f 7)).1 → f' 7 = (tlA (C 6) (N 6) (f 7)).2.1 → fl' 8 = (tlA (C 6) (N 6) (f 7)).2.2 → Q none KW (upR (upR (blk hi 38 C) 53 B) 36 f') (upR (blk hl 46 N) 36 fl')) : Con eX2_sumUp [vR 36] KW (upR (upR (blk hi 38 C) 53 B) 36 f) (upR (blk hl 46 N) 36 fl) Q := by
  refine Con.ofV (by decide +kernel) (Nat.le_of_ble_eq_true rfl) ?_
  show V eX2_sumUp none KW 0 [(0, vR 36)] [] (upR (upR (blk hi 38 C) 53 B) 36 f) (upR (blk hl 46 N) 36 fl) 0 0 Q
  refine V.aload_n (pc := 0) 0 dX2_sumUp_0 rfl ?_
  refine V.sipush (pc := 1) (z := 1000) dX2_sumUp_1 (by decide +kernel) ⟨by decide, by decide⟩ ?_
  refine V.pi (pc := 4) (hi' := (upR (upR (blk hi 38 C) 53 B) 36 (updF f 5 1000))) 2 5 flX2_33 dX2_sumUp_4 (kS_36) (by decide) (by decide) rfl rfl u1 ?_
  refine V.iconst (pc := 7) (z := 0) dX2_sumUp_7 rfl ⟨by decide, by decide⟩ ?_
  refine V.istore_n (pc := 8) (i := 1) dX2_sumUp_8 rfl (by decide) (ls' := [(1, vI 0), (0, vR 36)]) rfl ?_
  have lp9 : ∀ (fu9 : Nat) (k : Nat) (f1 : Nat → Int), (k ≤ 364) → (f1 5 = mnF (C 6) k) → (f1 7 = f 7) → 364 - k < fu9 → V eX2_sumUp none KW 9 [(0, vR 36), (1, vI ((k : Nat) : Int))] [] (upR (upR (blk hi 38 C) 53 B) 36 f1) (upR (blk hl 46 N) 36 fl) 0 0 Q := by
    intro fu9
    induction fu9 with
    | zero => intro k f1 hk h5 h7 hm9; exact absurd hm9 (Nat.not_lt_zero _)
    | succ fu9 ih9 =>
      intro k f1 hk h5 h7 hm9
      refine V.iload_n (pc := 9) 1 dX2_sumUp_9 rfl ?_
      refine V.sipush (pc := 10) (z := 364) dX2_sumUp_10 (by decide +kernel) ⟨by decide, by decide⟩ ?_
      refine V.icmp_ge (pc := 13) 42 dX2_sumUp_13 (by decide) (fun h13 => ?_) (fun h13 => ?_)
      · skip
        refine V.aload_n (pc := 42) 0 dX2_sumUp_42 rfl ?_
        refine V.iconst (pc := 43) (z := 0) dX2_sumUp_43 rfl ⟨by decide, by decide⟩ ?_
        refine V.pi (pc := 44) (hi' := (upR (upR (blk hi 38 C) 53 B) 36 (updF f1 6 0))) 2 6 flX2_36 dX2_sumUp_44 (kS_36) (by decide) (by decide) rfl rfl u1 ?_
        refine V.aload_n (pc := 47) 0 dX2_sumUp_47 rfl ?_
        refine V.lconst (pc := 48) (z := 0) dX2_sumUp_48 (by decide +kernel) ⟨by decide, by decide⟩ ?_
        refine V.pj (pc := 49) (hl' := (upR (blk hl 46 N) 36 (updF fl 8 0))) 2 8 flX2_42 dX2_sumUp_49 (kS_36) (by decide) (by decide) rfl rfl u1 ?_
        refine V.sipush (pc := 52) (z := 363) dX2_sumUp_52 (by decide +kernel) ⟨by decide, by decide⟩ ?_
        refine V.istore_n (pc := 55) (i := 1) dX2_sumUp_55 rfl (by decide) (ls' := [(1, vI 363), (0, vR 36)]) rfl ?_
        have lp56 : ∀ (fu56 : Nat) (i : Nat) (f2 : Nat → Int) (fl2 : Nat → Int), (i ≤ 364) → (f2 5 = mnF (C 6) 364) → (f2 6 = (tlF (C 6) (N 6) (mnF (C 6) 364) (f 7) i).1) → (f2 7 = (tlF (C 6) (N 6) (mnF (C 6) 364) (f 7) i).2.1) → (fl2 8 = (tlF (C 6) (N 6) (mnF (C 6) 364) (f 7) i).2.2) → (i = 0 ∨ mnF (C 6) 364 < 1000) → 364 - i < fu56 → V eX2_sumUp none KW 56 [(0, vR 36), (1, vI (363 - (i : Int)))] [] (upR (upR (blk hi 38 C) 53 B) 36 f2) (upR (blk hl 46 N) 36 fl2) 0 0 Q := by
          intro fu56
          induction fu56 with
          | zero => intro i f2 fl2 hin g5 g6 g7 g8 g9 hm56; exact absurd hm56 (Nat.not_lt_zero _)
          | succ fu56 ih56 =>
            intro i f2 fl2 hin g5 g6 g7 g8 g9 hm56
            have htb := tlF_b (C 6) (N 6) (mnF (C 6) 364) (f 7) i
            refine V.iload_n (pc := 56) 1 dX2_sumUp_56 rfl ?_
            refine V.if_lt (pc := 57) 128 dX2_sumUp_57 (by decide) (fun h57 => ?_) (fun h57 => ?_)
            · skip
              refine V.vret (pc := 128) dX2_sumUp_128 rfl ?_
              have hA : tlA (C 6) (N 6) (f 7) = tlF (C 6) (N 6) (mnF (C 6) 364) (f 7) i := by
                unfold tlA
                by_cases e : i = 364
                · subst e; rw [if_pos (by omega)]
                · have e0 : i = 0 := by omega
                  subst e0; rw [if_neg (by omega)]; rfl
              exact hq _ _ g5 (by rw [hA]; exact g6) (by rw [hA]; exact g7) (by rw [hA]; exact g8)
            · skip
              refine V.aload_n (pc := 60) 0 dX2_sumUp_60 rfl ?_
              refine V.gi (pc := 61) 2 5 (mnF (C 6) 364) flX2_33 dX2_sumUp_61 (kS_36) (by decide) (by decide) rfl (g5) ?_
              refine V.sipush (pc := 64) (z := 1000) dX2_sumUp_64 (by decide +kernel) ⟨by decide, by decide⟩ ?_
              refine V.icmp_ge (pc := 67) 128 dX2_sumUp_67 (by decide) (fun h67 => ?_) (fun h67 => ?_)
              · skip
                refine V.vret (pc := 128) dX2_sumUp_128 rfl ?_
                have hA : tlA (C 6) (N 6) (f 7) = tlF (C 6) (N 6) (mnF (C 6) 364) (f 7) i := by
                  unfold tlA
                  by_cases e : i = 364
                  · subst e; rw [if_pos (by omega)]
                  · have e0 : i = 0 := by omega
                    subst e0; rw [if_neg (by omega)]; rfl
                exact hq _ _ g5 (by rw [hA]; exact g6) (by rw [hA]; exact g7) (by rw [hA]; exact g8)
              · skip
                refine V.aload_n (pc := 70) 0 dX2_sumUp_70 rfl ?_
                refine V.gr (pc := 71) 2 0 37 flX2_11 dX2_sumUp_71 (kS_36) (by decide) (by decide) rfl (kR_36_0) ?_
                refine V.bipush (pc := 74) (z := 6) dX2_sumUp_74 (by decide +kernel) ⟨by decide, by decide⟩ ?_
                refine V.aald (pc := 76) (o' := 44) (len := 7) (t := 1) 6 dX2_sumUp_76 (kS_37) (by decide) (kR_37_6) (rfl) (by decide) ?_
                refine V.iload_n (pc := 77) 1 dX2_sumUp_77 rfl ?_
                refine V.ia (pc := 78) (len := 364) (363 - i) ((C 6) (363 - i)) dX2_sumUp_78 (kS_44) (by omega) (by omega) (rfl) ?_
                refine V.aload_n (pc := 79) 0 dX2_sumUp_79 rfl ?_
                refine V.gi (pc := 80) 2 5 (mnF (C 6) 364) flX2_33 dX2_sumUp_80 (kS_36) (by decide) (by decide) rfl (g5) ?_
                refine V.icmp_eq (pc := 83) 89 dX2_sumUp_83 (by decide) (fun h83 => ?_) (fun h83 => ?_)
                · have heq : C 6 (363 - i) = mnF (C 6) 364 := by omega
                  refine V.aload_n (pc := 89) 0 dX2_sumUp_89 rfl ?_
                  refine V.dup (pc := 90) dX2_sumUp_90 rfl ?_
                  refine V.gi (pc := 91) 2 6 ((tlF (C 6) (N 6) (mnF (C 6) 364) (f 7) i).1) flX2_36 dX2_sumUp_91 (kS_36) (by decide) (by decide) rfl (g6) ?_
                  refine V.iconst (pc := 94) (z := 1) dX2_sumUp_94 rfl ⟨by decide, by decide⟩ ?_
                  refine V.iadd (pc := 95) (((tlF (C 6) (N 6) (mnF (C 6) 364) (f 7) i).1 + 1)) dX2_sumUp_95 (w32_of (by omega) (by omega) (by omega)) ?_
                  refine V.pi (pc := 96) (hi' := (upR (upR (blk hi 38 C) 53 B) 36 (updF f2 6 ((tlF (C 6) (N 6) (mnF (C 6) 364) (f 7) i).1 + 1)))) 2 6 flX2_36 dX2_sumUp_96 (kS_36) (by decide) (by decide) rfl rfl u1 ?_
                  refine V.aload_n (pc := 99) 0 dX2_sumUp_99 rfl ?_
                  refine V.iload_n (pc := 100) 1 dX2_sumUp_100 rfl ?_
                  refine V.pi (pc := 101) (hi' := (upR (upR (blk hi 38 C) 53 B) 36 (updF (updF f2 6 ((tlF (C 6) (N 6) (mnF (C 6) 364) (f 7) i).1 + 1)) 7 (363 - (i : Int))))) 2 7 flX2_39 dX2_sumUp_101 (kS_36) (by decide) (by decide) rfl rfl u1 ?_
                  refine V.aload_n (pc := 104) 0 dX2_sumUp_104 rfl ?_
                  refine V.dup (pc := 105) dX2_sumUp_105 rfl ?_
                  refine V.gj (pc := 106) 2 8 ((tlF (C 6) (N 6) (mnF (C 6) 364) (f 7) i).2.2) flX2_42 dX2_sumUp_106 (kS_36) (by decide) (by decide) rfl (g8) ?_
                  refine V.aload_n (pc := 109) 0 dX2_sumUp_109 rfl ?_
                  refine V.gr (pc := 110) 2 1 45 flX2_18 dX2_sumUp_110 (kS_36) (by decide) (by decide) rfl (kR_36_1) ?_
                  refine V.bipush (pc := 113) (z := 6) dX2_sumUp_113 (by decide +kernel) ⟨by decide, by decide⟩ ?_
                  refine V.aald (pc := 115) (o' := 52) (len := 7) (t := 2) 6 dX2_sumUp_115 (kS_45) (by decide) (kR_45_6) (rfl) (by decide) ?_
                  refine V.iload_n (pc := 116) 1 dX2_sumUp_116 rfl ?_
                  refine V.la (pc := 117) (len := 364) (363 - i) ((N 6) (363 - i)) dX2_sumUp_117 (kS_52) (by omega) (by omega) (rfl) ?_
                  refine V.ladd (pc := 118) ((w64 ((tlF (C 6) (N 6) (mnF (C 6) 364) (f 7) i).2.2 + N 6 (363 - i)))) dX2_sumUp_118 rfl ?_
                  refine V.pj (pc := 119) (hl' := (upR (blk hl 46 N) 36 (updF fl2 8 (w64 ((tlF (C 6) (N 6) (mnF (C 6) 364) (f 7) i).2.2 + N 6 (363 - i)))))) 2 8 flX2_42 dX2_sumUp_119 (kS_36) (by decide) (by decide) rfl rfl u1 ?_
                  refine V.iinc (pc := 122) (r := (363 - ((i + 1 : Nat) : Int))) 1 dX2_sumUp_122 rfl (w32_of (by omega) (by omega) (by omega)) (by decide) (ls' := [(1, vI (363 - ((i + 1 : Nat) : Int))), (0, vR 36)]) rfl ?_
                  refine V.goto (pc := 125) 56 dX2_sumUp_125 (by decide) ?_
                  refine V.locs [1, 0] (ls' := [(0, vR 36), (1, vI (363 - ((i + 1 : Nat) : Int)))]) rfl ?_
                  exact ih56 (i + 1) (updF (updF f2 6 ((tlF (C 6) (N 6) (mnF (C 6) 364) (f 7) i).1 + 1)) 7 (363 - (i : Int))) (updF fl2 8 (w64 ((tlF (C 6) (N 6) (mnF (C 6) 364) (f 7) i).2.2 + N 6 (363 - i)))) (by omega) (by rw [updF_n (by decide), updF_n (by decide)]; exact g5) (by rw [tlF_s, if_pos heq, updF_n (by decide), updF_s]) (by rw [tlF_s, if_pos heq, updF_s]; show (363 - (i : Int)) = ((363 - i : Nat) : Int); omega) (by rw [tlF_s, if_pos heq, updF_s]) (Or.inr (by omega)) (by omega)
                · have heq : ¬ C 6 (363 - i) = mnF (C 6) 364 := by omega
                  refine V.goto (pc := 86) 122 dX2_sumUp_86 (by decide) ?_
                  refine V.iinc (pc := 122) (r := (363 - ((i + 1 : Nat) : Int))) 1 dX2_sumUp_122 rfl (w32_of (by omega) (by omega) (by omega)) (by decide) (ls' := [(1, vI (363 - ((i + 1 : Nat) : Int))), (0, vR 36)]) rfl ?_
                  refine V.goto (pc := 125) 56 dX2_sumUp_125 (by decide) ?_
                  refine V.locs [1, 0] (ls' := [(0, vR 36), (1, vI (363 - ((i + 1 : Nat) : Int)))]) rfl ?_
                  exact ih56 (i + 1) f2 fl2 (by omega) (g5) (by rw [tlF_s, if_neg heq]; exact g6) (by rw [tlF_s, if_neg heq]; exact g7) (by rw [tlF_s, if_neg heq]; exact g8) (Or.inr (by omega)) (by omega)
        refine V.locs [1, 0] (ls' := [(0, vR 36), (1, vI 363)]) rfl ?_
        exact lp56 _ 0 (updF f1 6 0) (updF fl 8 0) (by omega) (by rw [updF_n (by decide)]; have e : k = 364 := (by omega); subst e; exact h5) (updF_s) (by rw [updF_n (by decide)]; exact h7) (updF_s) (Or.inl rfl) (Nat.lt_succ_self _)
      · skip
        refine V.aload_n (pc := 16) 0 dX2_sumUp_16 rfl ?_
        refine V.aload_n (pc := 17) 0 dX2_sumUp_17 rfl ?_
        refine V.gi (pc := 18) 2 5 (mnF (C 6) k) flX2_33 dX2_sumUp_18 (kS_36) (by decide) (by decide) rfl (h5) ?_
        refine V.aload_n (pc := 21) 0 dX2_sumUp_21 rfl ?_
        refine V.gr (pc := 22) 2 0 37 flX2_11 dX2_sumUp_22 (kS_36) (by decide) (by decide) rfl (kR_36_0) ?_
        refine V.bipush (pc := 25) (z := 6) dX2_sumUp_25 (by decide +kernel) ⟨by decide, by decide⟩ ?_
        refine V.aald (pc := 27) (o' := 44) (len := 7) (t := 1) 6 dX2_sumUp_27 (kS_37) (by decide) (kR_37_6) (rfl) (by decide) ?_
        refine V.iload_n (pc := 28) 1 dX2_sumUp_28 rfl ?_
        refine V.ia (pc := 29) (len := 364) k ((C 6) k) dX2_sumUp_29 (kS_44) (rfl) (by omega) (rfl) ?_
        refine V.mmin (pc := 30) ((mnF (C 6) (k + 1))) mmX2_68 mm_st mm_in mm_cd dX2_sumUp_30 (by decide) (Nat.le_of_ble_eq_true rfl) (rfl) ?_
        refine V.pi (pc := 33) (hi' := (upR (upR (blk hi 38 C) 53 B) 36 (updF f1 5 (mnF (C 6) (k + 1))))) 2 5 flX2_33 dX2_sumUp_33 (kS_36) (by decide) (by decide) rfl rfl u1 ?_
        refine V.iinc (pc := 36) (r := ((k + 1 : Nat) : Int)) 1 dX2_sumUp_36 rfl (w32_of (by omega) (by omega) (by omega)) (by decide) (ls' := [(1, vI ((k + 1 : Nat) : Int)), (0, vR 36)]) rfl ?_
        refine V.goto (pc := 39) 9 dX2_sumUp_39 (by decide) ?_
        refine V.locs [1, 0] (ls' := [(0, vR 36), (1, vI ((k + 1 : Nat) : Int))]) rfl ?_
        exact ih9 (k + 1) (updF f1 5 (mnF (C 6) (k + 1))) (by omega) (by rw [updF_s]) (by rw [updF_n (by decide)]; exact h7) (by omega)
  refine V.locs [1, 0] (ls' := [(0, vR 36), (1, vI 0)]) rfl ?_
  exact lp9 _ 0 (updF f 5 1000) (by omega) (updF_s) (updF_n (by decide)) (Nat.lt_succ_self _)

set_option maxRecDepth 100000 in
theorem c_X2_costOf_36 (hi hl : HI) (v : Nat) (hv : v < 364) (Q : QT) (hq : Q (some (vI (hi 44 v))) KW hi hl) : Con eX2_costOf [vR 36, vI (v : Nat)] KW hi hl Q := by
  refine Con.ofV (by decide +kernel) (Nat.le_of_ble_eq_true rfl) ?_
  show V eX2_costOf none KW 0 [(0, vR 36), (1, vI ((v : Nat) : Int))] [] hi hl 0 0 Q
  refine V.iload_n (pc := 0) 1 dX2_costOf_0 rfl ?_
  refine V.if_lt (pc := 1) 23 dX2_costOf_1 (by decide) (fun hc => by exfalso; omega) (fun h1 => ?_)
  refine V.iload_n (pc := 4) 1 dX2_costOf_4 rfl ?_
  refine V.sipush (pc := 5) (z := 364) dX2_costOf_5 (by decide +kernel) ⟨by decide, by decide⟩ ?_
  refine V.icmp_ge (pc := 8) 23 dX2_costOf_8 (by decide) (fun hc => by exfalso; omega) (fun h8 => ?_)
  refine V.aload_n (pc := 11) 0 dX2_costOf_11 rfl ?_
  refine V.gr (pc := 12) 2 0 37 flX2_11 dX2_costOf_12 (kS_36) (by decide) (by decide) rfl (kR_36_0) ?_
  refine V.bipush (pc := 15) (z := 6) dX2_costOf_15 (by decide +kernel) ⟨by decide, by decide⟩ ?_
  refine V.aald (pc := 17) (o' := 44) (len := 7) (t := 1) 6 dX2_costOf_17 (kS_37) (by decide) (kR_37_6) (rfl) (by decide) ?_
  refine V.iload_n (pc := 18) 1 dX2_costOf_18 rfl ?_
  refine V.ia (pc := 19) (len := 364) v (hi 44 v) dX2_costOf_19 (kS_44) (rfl) (by omega) (rfl) ?_
  refine V.goto (pc := 20) 26 dX2_costOf_20 (by decide) ?_
  refine V.iret (pc := 26) (z := (hi 44 v)) dX2_costOf_26 rfl ?_
  exact hq

set_option maxRecDepth 100000 in
theorem c_X2_countUpTo_36 (hi hl : HI) (c : Nat → Int) (hc : hi 44 = c) (x : Int) (Q : QT) (hq : Q (some (vI (ctF c x 364 : Nat))) KW hi hl) : Con eX2_countUpTo [vR 36, vI x] KW hi hl Q := by
  refine Con.ofV (by decide +kernel) (Nat.le_of_ble_eq_true rfl) ?_
  show V eX2_countUpTo none KW 0 [(0, vR 36), (1, vI x)] [] hi hl 0 0 Q
  refine V.iconst (pc := 0) (z := 0) dX2_countUpTo_0 rfl ⟨by decide, by decide⟩ ?_
  refine V.istore_n (pc := 1) (i := 2) dX2_countUpTo_1 rfl (by decide) (ls' := [(2, vI 0), (0, vR 36), (1, vI x)]) rfl ?_
  refine V.iconst (pc := 2) (z := 0) dX2_countUpTo_2 rfl ⟨by decide, by decide⟩ ?_
  refine V.istore_n (pc := 3) (i := 3) dX2_countUpTo_3 rfl (by decide) (ls' := [(3, vI 0), (2, vI 0), (0, vR 36), (1, vI x)]) rfl ?_
  have lp4 : ∀ (fu4 : Nat) (k : Nat), (k ≤ 364) → 364 - k < fu4 → V eX2_countUpTo none KW 4 [(0, vR 36), (1, vI x), (2, vI ((ctF c x k : Nat) : Int)), (3, vI ((k : Nat) : Int))] [] hi hl 0 0 Q := by
    intro fu4
    induction fu4 with
    | zero => intro k hk hm4; exact absurd hm4 (Nat.not_lt_zero _)
    | succ fu4 ih4 =>
      intro k hk hm4
      have hcl := ctF_le c x k
      refine V.iload_n (pc := 4) 3 dX2_countUpTo_4 rfl ?_
      refine V.sipush (pc := 5) (z := 364) dX2_countUpTo_5 (by decide +kernel) ⟨by decide, by decide⟩ ?_
      refine V.icmp_ge (pc := 8) 33 dX2_countUpTo_8 (by decide) (fun h8 => ?_) (fun h8 => ?_)
      · skip
        refine V.iload_n (pc := 33) 2 dX2_countUpTo_33 rfl ?_
        refine V.iret (pc := 34) (z := ((ctF c x k : Nat) : Int)) dX2_countUpTo_34 rfl ?_
        have e : k = 364 := by omega
        subst e
        exact hq
      · skip
        refine V.aload_n (pc := 11) 0 dX2_countUpTo_11 rfl ?_
        refine V.gr (pc := 12) 2 0 37 flX2_11 dX2_countUpTo_12 (kS_36) (by decide) (by decide) rfl (kR_36_0) ?_
        refine V.bipush (pc := 15) (z := 6) dX2_countUpTo_15 (by decide +kernel) ⟨by decide, by decide⟩ ?_
        refine V.aald (pc := 17) (o' := 44) (len := 7) (t := 1) 6 dX2_countUpTo_17 (kS_37) (by decide) (kR_37_6) (rfl) (by decide) ?_
        refine V.iload_n (pc := 18) 3 dX2_countUpTo_18 rfl ?_
        refine V.ia (pc := 19) (len := 364) k (c k) dX2_countUpTo_19 (kS_44) (rfl) (by omega) (by rw [hc]) ?_
        refine V.iload_n (pc := 20) 1 dX2_countUpTo_20 rfl ?_
        refine V.icmp_gt (pc := 21) 27 dX2_countUpTo_21 (by decide) (fun h21 => ?_) (fun h21 => ?_)
        · skip
          refine V.iinc (pc := 27) (r := ((k + 1 : Nat) : Int)) 3 dX2_countUpTo_27 rfl (w32_of (by omega) (by omega) (by omega)) (by decide) (ls' := [(3, vI ((k + 1 : Nat) : Int)), (0, vR 36), (1, vI x), (2, vI ((ctF c x k : Nat) : Int))]) rfl ?_
          refine V.goto (pc := 30) 4 dX2_countUpTo_30 (by decide) ?_
          refine V.locs [1, 2, 3, 0] (ls' := [(0, vR 36), (1, vI x), (2, vI ((ctF c x k : Nat) : Int)), (3, vI ((k + 1 : Nat) : Int))]) rfl ?_
          have hct : ctF c x (k + 1) = ctF c x k + 0 := by rw [ctF_s, if_neg (by omega)]
          have hct : ctF c x (k + 1) = ctF c x k := hct
          rw [← hct]
          exact ih4 (k + 1) (by omega) (by omega)
        · skip
          refine V.iinc (pc := 24) (r := ((ctF c x k + 1 : Nat) : Int)) 2 dX2_countUpTo_24 rfl (w32_of (by omega) (by omega) (by omega)) (by decide) (ls' := [(2, vI ((ctF c x k + 1 : Nat) : Int)), (0, vR 36), (1, vI x), (3, vI ((k : Nat) : Int))]) rfl ?_
          refine V.iinc (pc := 27) (r := ((k + 1 : Nat) : Int)) 3 dX2_countUpTo_27 rfl (w32_of (by omega) (by omega) (by omega)) (by decide) (ls' := [(3, vI ((k + 1 : Nat) : Int)), (2, vI ((ctF c x k + 1 : Nat) : Int)), (0, vR 36), (1, vI x)]) rfl ?_
          refine V.goto (pc := 30) 4 dX2_countUpTo_30 (by decide) ?_
          refine V.locs [2, 3, 1, 0] (ls' := [(0, vR 36), (1, vI x), (2, vI ((ctF c x k + 1 : Nat) : Int)), (3, vI ((k + 1 : Nat) : Int))]) rfl ?_
          have hct : ctF c x (k + 1) = ctF c x k + 1 := by rw [ctF_s, if_pos (by omega)]
          rw [← hct]
          exact ih4 (k + 1) (by omega) (by omega)
  refine V.locs [2, 3, 1, 0] (ls' := [(0, vR 36), (1, vI x), (2, vI 0), (3, vI 0)]) rfl ?_
  exact lp4 _ 0 (by omega) (Nat.lt_succ_self _)

set_option maxRecDepth 100000 in
theorem c_X2_waysOf_36 (hi hl : HI) (c n : Nat → Int) (hc : hi 44 = c) (hn : hl 52 = n) (v : Nat) (hv : v < 364) (Q : QT) (hq : Q (some (vL (if c v < 1000 ∧ c v = hi 36 5 then n v else 0))) KW hi hl) : Con eX2_waysOf [vR 36, vI (v : Nat)] KW hi hl Q := by
  refine Con.ofV (by decide +kernel) (Nat.le_of_ble_eq_true rfl) ?_
  show V eX2_waysOf none KW 0 [(0, vR 36), (1, vI ((v : Nat) : Int))] [] hi hl 0 0 Q
  subst hc hn
  refine V.aload_n (pc := 0) 0 dX2_waysOf_0 rfl ?_
  refine V.iload_n (pc := 1) 1 dX2_waysOf_1 rfl ?_
  refine V.callV (pc := 2) (e1 := eX2_costOf) (o := 36) (c := 2) 1 [vI ((v : Nat) : Int)] [] mfX2_costOf slX2_costOf mlX2_97 dX2_waysOf_2 (kS_36) (by decide) rfl rfl rfl (Nat.le_of_ble_eq_true rfl) ⟨by decide, by decide, by decide, by decide⟩ ?_
  refine c_X2_costOf_36 hi hl v (by omega) _ ?_
  refine V.qI (pc := 2) rfl rfl ?_
  refine V.istore_n (pc := 5) (i := 2) dX2_waysOf_5 rfl (by decide) (ls' := [(2, vI (hi 44 v)), (0, vR 36), (1, vI ((v : Nat) : Int))]) rfl ?_
  refine V.iload_n (pc := 6) 0 dX2_waysOf_6 rfl ?_
  refine V.sipush (pc := 7) (z := 1000) dX2_waysOf_7 (by decide +kernel) ⟨by decide, by decide⟩ ?_
  refine V.icmp_ge (pc := 10) 33 dX2_waysOf_10 (by decide) (fun h10 => ?_) (fun h10 => ?_)
  · skip
    refine V.lconst (pc := 33) (z := 0) dX2_waysOf_33 (by decide +kernel) ⟨by decide, by decide⟩ ?_
    refine V.lret (pc := 34) (z := 0) dX2_waysOf_34 rfl ?_
    first | (rw [if_pos (by omega)] at hq; exact hq) | (rw [if_neg (by omega)] at hq; exact hq)
  · skip
    refine V.iload_n (pc := 13) 0 dX2_waysOf_13 rfl ?_
    refine V.aload_n (pc := 14) 1 dX2_waysOf_14 rfl ?_
    refine V.gi (pc := 15) 2 5 (hi 36 5) flX2_33 dX2_waysOf_15 (kS_36) (by decide) (by decide) rfl (rfl) ?_
    refine V.icmp_ne (pc := 18) 33 dX2_waysOf_18 (by decide) (fun h18 => ?_) (fun h18 => ?_)
    · skip
      refine V.lconst (pc := 33) (z := 0) dX2_waysOf_33 (by decide +kernel) ⟨by decide, by decide⟩ ?_
      refine V.lret (pc := 34) (z := 0) dX2_waysOf_34 rfl ?_
      first | (rw [if_pos (by omega)] at hq; exact hq) | (rw [if_neg (by omega)] at hq; exact hq)
    · skip
      refine V.aload_n (pc := 21) 1 dX2_waysOf_21 rfl ?_
      refine V.gr (pc := 22) 2 1 45 flX2_18 dX2_waysOf_22 (kS_36) (by decide) (by decide) rfl (kR_36_1) ?_
      refine V.bipush (pc := 25) (z := 6) dX2_waysOf_25 (by decide +kernel) ⟨by decide, by decide⟩ ?_
      refine V.aald (pc := 27) (o' := 52) (len := 7) (t := 2) 6 dX2_waysOf_27 (kS_45) (by decide) (kR_45_6) (rfl) (by decide) ?_
      refine V.iload_n (pc := 28) 2 dX2_waysOf_28 rfl ?_
      refine V.la (pc := 29) (len := 364) v (hl 52 v) dX2_waysOf_29 (kS_52) (rfl) (by omega) (rfl) ?_
      refine V.goto (pc := 30) 34 dX2_waysOf_30 (by decide) ?_
      refine V.lret (pc := 34) (z := (hl 52 v)) dX2_waysOf_34 rfl ?_
      first | (rw [if_pos (by omega)] at hq; exact hq) | (rw [if_neg (by omega)] at hq; exact hq)

set_option maxRecDepth 100000 in
theorem c_X2_reckon_36 (hi hl C N : HI) (B f fl : Nat → Int) (hT : TB (hi 2) (hi 3)) (σ : SG) (hC : CR hi 10 σ) (H : Nat → Bool) (hH : ∀ j, j < nn σ → hi 35 j = b2i (H j)) (hHO : HOK σ H) (L : Int) (Q : QT) (hq : ∀ (C' N' : HI) (B' f' fl' : Nat → Int), HQ (hFin σ H L) (C' 6) (N' 6) f' fl' → Q none KW (upR (upR (blk hi 38 C') 53 B') 36 f') (upR (blk hl 46 N') 36 fl')) : Con eX2_reckon [vR 36, vR 10, vR 35, vR 1, vI L] KW (upR (upR (blk hi 38 C) 53 B) 36 f) (upR (blk hl 46 N) 36 fl) Q := by
  refine Con.ofV (by decide +kernel) (Nat.le_of_ble_eq_true rfl) ?_
  show V eX2_reckon none KW 0 [(0, vR 36), (1, vR 10), (2, vR 35), (3, vR 1), (4, vI L)] [] (upR (upR (blk hi 38 C) 53 B) 36 f) (upR (blk hl 46 N) 36 fl) 0 0 Q
  have hwf := hC.1
  have hn16 := hwf.2.2.1
  refine V.iconst (pc := 0) (z := 0) dX2_reckon_0 rfl ⟨by decide, by decide⟩ ?_
  refine V.istore (pc := 1) (i := 5) dX2_reckon_1 (by decide) (ls' := [(5, vI 0), (0, vR 36), (1, vR 10), (2, vR 35), (3, vR 1), (4, vI L)]) rfl ?_
  have lp3 : ∀ (fu3 : Nat) (k : Nat) (C1 : HI) (N1 : HI) (B1 : Nat → Int), (k ≤ 7) → (∀ j, j < k → B1 j = 0 ∧ ∀ v, v < 364 → C1 j v = 0 ∧ N1 j v = 1) → 7 - k < fu3 → V eX2_reckon none KW 3 [(0, vR 36), (1, vR 10), (2, vR 35), (3, vR 1), (4, vI L), (5, vI ((k : Nat) : Int))] [] (upR (upR (blk hi 38 C1) 53 B1) 36 f) (upR (blk hl 46 N1) 36 fl) 0 0 Q := by
    intro fu3
    induction fu3 with
    | zero => intro k C1 N1 B1 hk h1 hm3; exact absurd hm3 (Nat.not_lt_zero _)
    | succ fu3 ih3 =>
      intro k C1 N1 B1 hk h1 hm3
      refine V.iload (pc := 3) 5 dX2_reckon_3 rfl ?_
      refine V.bipush (pc := 5) (z := 6) dX2_reckon_5 (by decide +kernel) ⟨by decide, by decide⟩ ?_
      refine V.icmp_gt (pc := 7) 22 dX2_reckon_7 (by decide) (fun h7 => ?_) (fun h7 => ?_)
      · skip
        refine V.iconst (pc := 22) (z := 0) dX2_reckon_22 rfl ⟨by decide, by decide⟩ ?_
        refine V.istore (pc := 23) (i := 5) dX2_reckon_23 (by decide) (ls' := [(5, vI 0), (0, vR 36), (1, vR 10), (2, vR 35), (3, vR 1), (4, vI L)]) rfl ?_
        have lp25 : ∀ (fu25 : Nat) (k : Nat) (C2 : HI) (N2 : HI) (B2 : Nat → Int), (k ≤ 6) → (AgH C2 N2 B2 (hI σ L k)) → 6 - k < fu25 → V eX2_reckon none KW 25 [(0, vR 36), (1, vR 10), (2, vR 35), (3, vR 1), (4, vI L), (5, vI ((k : Nat) : Int))] [] (upR (upR (blk hi 38 C2) 53 B2) 36 f) (upR (blk hl 46 N2) 36 fl) 0 0 Q := by
          intro fu25
          induction fu25 with
          | zero => intro k C2 N2 B2 hk2 hA hm25; exact absurd hm25 (Nat.not_lt_zero _)
          | succ fu25 ih25 =>
            intro k C2 N2 B2 hk2 hA hm25
            refine V.iload (pc := 25) 5 dX2_reckon_25 rfl ?_
            refine V.bipush (pc := 27) (z := 6) dX2_reckon_27 (by decide +kernel) ⟨by decide, by decide⟩ ?_
            refine V.icmp_ge (pc := 29) 69 dX2_reckon_29 (by decide) (fun h29 => ?_) (fun h29 => ?_)
            · skip
              refine V.aload_n (pc := 69) 1 dX2_reckon_69 rfl ?_
              refine V.gr (pc := 70) 0 2 13 flX2_59 dX2_reckon_70 (kS_10) (by decide) (by decide) rfl (kR_10_2) ?_
              refine V.astore (pc := 73) (i := 5) dX2_reckon_73 (by decide) (ls' := [(5, vR 13), (0, vR 36), (1, vR 10), (2, vR 35), (3, vR 1), (4, vI L)]) rfl ?_
              refine V.aload (pc := 75) 0 dX2_reckon_75 rfl ?_
              refine V.gi (pc := 77) 1 3 ((nn σ : Nat) : Int) flX2_63 dX2_reckon_77 (kS_13) (by decide) (by decide) rfl (hC.2.2.2.1) ?_
              refine V.aload_n (pc := 80) 3 dX2_reckon_80 rfl ?_
              refine V.alen (pc := 81) (len := 16) (t := 2) dX2_reckon_81 (kS_35) (by decide) (by decide) ?_
              refine V.mmin (pc := 82) (((nn σ : Nat) : Int)) mmX2_68 mm_st mm_in mm_cd dX2_reckon_82 (by decide) (Nat.le_of_ble_eq_true rfl) (if_neg (by omega)) ?_
              refine V.iconst (pc := 85) (z := 1) dX2_reckon_85 rfl ⟨by decide, by decide⟩ ?_
              refine V.isub (pc := 86) ((((nn σ : Nat) : Int) - 1)) dX2_reckon_86 (w32_of (by omega) (by omega) (by omega)) ?_
              refine V.istore (pc := 87) (i := 6) dX2_reckon_87 (by decide) (ls' := [(6, vI (((nn σ : Nat) : Int) - 1)), (5, vR 13), (0, vR 36), (1, vR 10), (2, vR 35), (3, vR 1), (4, vI L)]) rfl ?_
              have lp89 : ∀ (fu89 : Nat) (k : Nat) (C3 : HI) (N3 : HI) (B3 : Nat → Int) (f3v : Nat → Int) (fl3v : Nat → Int), (k ≤ nn σ) → (AgH C3 N3 B3 (hRec σ H L (nn σ - k))) → k < fu89 → V eX2_reckon none KW 89 [(0, vR 36), (1, vR 10), (2, vR 35), (3, vR 1), (4, vI L), (5, vR 13), (6, vI ((k : Int) - 1))] [] (upR (upR (blk hi 38 C3) 53 B3) 36 f3v) (upR (blk hl 46 N3) 36 fl3v) 0 0 Q := by
                intro fu89
                induction fu89 with
                | zero => intro k C3 N3 B3 f3v fl3v hk3 hA3 hm89; exact absurd hm89 (Nat.not_lt_zero _)
                | succ fu89 ih89 =>
                  intro k C3 N3 B3 f3v fl3v hk3 hA3 hm89
                  have hbd := AgH_w hA3 (BdH_rec hwf hHO (nn σ - k) (by omega))
                  refine V.iload (pc := 89) 6 dX2_reckon_89 rfl ?_
                  refine V.if_lt (pc := 91) 132 dX2_reckon_91 (by decide) (fun h91 => ?_) (fun h91 => ?_)
                  · have hk0 : k = 0 := by omega
                    subst hk0
                    rw [Nat.sub_zero] at hA3
                    refine V.aload_n (pc := 132) 0 dX2_reckon_132 rfl ?_
                    refine V.callV (pc := 133) (e1 := eX2_someBirdIsBound) (o := 36) (c := 2) 0 [] [] mfX2_someBirdIsBound slX2_someBirdIsBound mlX2_87 dX2_reckon_133 (kS_36) (by decide) rfl rfl rfl (Nat.le_of_ble_eq_true rfl) ⟨by decide, by decide, by decide, by decide⟩ ?_
                    refine c_X2_someBirdIsBound_36 hi hl C3 N3 B3 f3v fl3v (hRec σ H L (nn σ)).2.2 (fun s hs => (hA3 s hs).1) _ ?_
                    refine V.qI (pc := 133) rfl rfl ?_
                    refine V.if_eq (pc := 136) 145 dX2_reckon_136 (by decide) (fun h136 => ?_) (fun h136 => ?_)
                    · skip
                      refine V.aload_n (pc := 145) 0 dX2_reckon_145 rfl ?_
                      refine V.callV (pc := 146) (e1 := eX2_sumUp) (o := 36) (c := 2) 0 [] [] mfX2_sumUp slX2_sumUp mlX2_94 dX2_reckon_146 (kS_36) (by decide) rfl rfl rfl (Nat.le_of_ble_eq_true rfl) ⟨by decide, by decide, by decide, by decide⟩ ?_
                      refine c_X2_sumUp_36 hi hl C3 N3 B3 f3v fl3v (fun j hj => hbd 6 (by omega) j hj) _ (fun f4 fl4 hs5 hs6 hs7 hs8 => ?_)
                      refine V.qV (pc := 146) rfl rfl ?_
                      refine V.vret (pc := 149) dX2_reckon_149 rfl ?_
                      exact hq _ _ _ _ _ (by rw [hFin_f (b2i_F h136)]; exact HQ_mk hA3 hs5 hs6 hs7 hs8)
                    · skip
                      refine V.aload_n (pc := 139) 0 dX2_reckon_139 rfl ?_
                      refine V.bipush (pc := 140) (z := 6) dX2_reckon_140 (by decide +kernel) ⟨by decide, by decide⟩ ?_
                      refine V.callV (pc := 142) (e1 := eX2_forbid) (o := 36) (c := 2) 1 [vI 6] [] mfX2_forbid slX2_forbid mlX2_91 dX2_reckon_142 (kS_36) (by decide) rfl rfl rfl (Nat.le_of_ble_eq_true rfl) ⟨by decide, by decide, by decide, by decide⟩ ?_
                      refine c_X2_forbid_36 hi hl C3 N3 B3 f3v fl3v 6 (by omega) _ (fun g8 m8 hf8 => ?_)
                      refine V.qV (pc := 142) rfl rfl ?_
                      refine V.aload_n (pc := 145) 0 dX2_reckon_145 rfl ?_
                      refine V.callV (pc := 146) (e1 := eX2_sumUp) (o := 36) (c := 2) 0 [] [] mfX2_sumUp slX2_sumUp mlX2_94 dX2_reckon_146 (kS_36) (by decide) rfl rfl rfl (Nat.le_of_ble_eq_true rfl) ⟨by decide, by decide, by decide, by decide⟩ ?_
                      refine c_X2_sumUp_36 hi hl (upR C3 6 g8) (upR N3 6 m8) (updF B3 6 1) f3v fl3v (fun j hj => by rw [upR_s, (hf8 j hj).1]; omega) _ (fun f4 fl4 hs5 hs6 hs7 hs8 => ?_)
                      refine V.qV (pc := 146) rfl rfl ?_
                      refine V.vret (pc := 149) dX2_reckon_149 rfl ?_
                      exact hq _ _ _ _ _ (by rw [hFin_t (b2i_T h136)]; exact HQ_mk (AgH_up hA3 hf8 rfl) hs5 hs6 hs7 hs8)
                  · have hk1 : 1 ≤ k := by omega
                    have hpk := hwf.2.2.2.1 (k - 1) (by omega)
                    have hCk := hC.2.2.2.2.1 (k - 1) (by omega)
                    refine V.aload_n (pc := 94) 2 dX2_reckon_94 rfl ?_
                    refine V.iload (pc := 95) 6 dX2_reckon_95 rfl ?_
                    refine V.za (pc := 97) (len := 16) (k - 1) (b2i (H (k - 1))) dX2_reckon_97 (kS_35) (by omega) (by omega) (hH _ (by omega)) ?_
                    refine V.if_eq (pc := 98) 126 dX2_reckon_98 (by decide) (fun h98 => ?_) (fun h98 => ?_)
                    · have hHk := b2i_F h98
                      refine V.iinc (pc := 126) (r := (((k - 1 : Nat) : Int) - 1)) 6 dX2_reckon_126 rfl (w32_of (by omega) (by omega) (by omega)) (by decide) (ls' := [(6, vI (((k - 1 : Nat) : Int) - 1)), (0, vR 36), (1, vR 10), (2, vR 35), (3, vR 1), (4, vI L), (5, vR 13)]) rfl ?_
                      refine V.goto (pc := 129) 89 dX2_reckon_129 (by decide) ?_
                      refine V.locs [1, 2, 3, 4, 5, 6, 0] (ls' := [(0, vR 36), (1, vR 10), (2, vR 35), (3, vR 1), (4, vI L), (5, vR 13), (6, vI (((k - 1 : Nat) : Int) - 1))]) rfl ?_
                      exact ih89 (k - 1) C3 N3 B3 f3v fl3v (by omega) (by rw [hRec_k hk1 hk3, hHk]; exact hA3) (by omega)
                    · have hHk := b2i_T h98
                      have hs6 := hHO (k - 1) (by omega) hHk
                      have hsoo := hwf.1 (he σ (k - 1)) (by omega)
                      refine V.aload_n (pc := 101) 0 dX2_reckon_101 rfl ?_
                      refine V.aload (pc := 102) 5 dX2_reckon_102 rfl ?_
                      refine V.gr (pc := 104) 1 0 14 flX2_74 dX2_reckon_104 (kS_13) (by decide) (by decide) rfl (kR_13_0) ?_
                      refine V.iload (pc := 107) 6 dX2_reckon_107 rfl ?_
                      refine V.ia (pc := 109) (len := 16) (k - 1) ((sp' σ (k - 1) : Nat) : Int) dX2_reckon_109 (kS_14) (by omega) (by omega) (hCk.1) ?_
                      refine V.aload (pc := 110) 5 dX2_reckon_110 rfl ?_
                      refine V.gr (pc := 112) 1 1 15 flX2_77 dX2_reckon_112 (kS_13) (by decide) (by decide) rfl (kR_13_1) ?_
                      refine V.iload (pc := 115) 6 dX2_reckon_115 rfl ?_
                      refine V.ia (pc := 117) (len := 16) (k - 1) ((he σ (k - 1) : Nat) : Int) dX2_reckon_117 (kS_15) (by omega) (by omega) (hCk.2.1) ?_
                      refine V.aload_n (pc := 118) 1 dX2_reckon_118 rfl ?_
                      refine V.gr (pc := 119) 0 0 11 flX2_80 dX2_reckon_119 (kS_10) (by decide) (by decide) rfl (kR_10_0) ?_
                      refine V.aload_n (pc := 122) 3 dX2_reckon_122 rfl ?_
                      refine V.callV (pc := 123) (e1 := eX2_goBack) (o := 36) (c := 2) 4 [vI ((sp' σ (k - 1) : Nat) : Int), vI ((he σ (k - 1) : Nat) : Int), vR 11, vR 1] [] mfX2_goBack slX2_goBack mlX2_83 dX2_reckon_123 (kS_36) (by decide) rfl rfl rfl (Nat.le_of_ble_eq_true rfl) ⟨by decide, by decide, by decide, by decide⟩ ?_
                      refine c_X2_goBack_36 hi hl C3 N3 B3 f3v fl3v hT (sp' σ (k - 1)) (he σ (k - 1)) (so σ (he σ (k - 1))) (by omega) (by omega) (by omega) hsoo (hC.2.1 _ (by omega)) hbd ((hRec σ H L (nn σ - k)).2.2 (he σ (k - 1))) (hA3 _ (by omega)).1 _ (fun hbF => ?_) (fun hbT g m g2 m2 f9 fl9 hg1 hg2 => ?_)
                      · skip
                        refine V.qV (pc := 123) rfl rfl ?_
                        refine V.iinc (pc := 126) (r := (((k - 1 : Nat) : Int) - 1)) 6 dX2_reckon_126 rfl (w32_of (by omega) (by omega) (by omega)) (by decide) (ls' := [(6, vI (((k - 1 : Nat) : Int) - 1)), (0, vR 36), (1, vR 10), (2, vR 35), (3, vR 1), (4, vI L), (5, vR 13)]) rfl ?_
                        refine V.goto (pc := 129) 89 dX2_reckon_129 (by decide) ?_
                        refine V.locs [1, 2, 3, 4, 5, 6, 0] (ls' := [(0, vR 36), (1, vR 10), (2, vR 35), (3, vR 1), (4, vI L), (5, vR 13), (6, vI (((k - 1 : Nat) : Int) - 1))]) rfl ?_
                        exact ih89 (k - 1) C3 N3 B3 f3v fl3v (by omega) (by rw [hRec_k hk1 hk3, if_pos hHk, gb_F hbF]; exact hA3) (by omega)
                      · skip
                        refine V.qV (pc := 123) rfl rfl ?_
                        refine V.iinc (pc := 126) (r := (((k - 1 : Nat) : Int) - 1)) 6 dX2_reckon_126 rfl (w32_of (by omega) (by omega) (by omega)) (by decide) (ls' := [(6, vI (((k - 1 : Nat) : Int) - 1)), (0, vR 36), (1, vR 10), (2, vR 35), (3, vR 1), (4, vI L), (5, vR 13)]) rfl ?_
                        refine V.goto (pc := 129) 89 dX2_reckon_129 (by decide) ?_
                        refine V.locs [1, 2, 3, 4, 5, 6, 0] (ls' := [(0, vR 36), (1, vR 10), (2, vR 35), (3, vR 1), (4, vI L), (5, vR 13), (6, vI (((k - 1 : Nat) : Int) - 1))]) rfl ?_
                        exact ih89 (k - 1) (upR (upR C3 ((sp' σ (k - 1))) g) ((he σ (k - 1))) g2) (upR (upR N3 ((sp' σ (k - 1))) m) ((he σ (k - 1))) m2) (updF (updF B3 ((sp' σ (k - 1))) 1) ((he σ (k - 1))) 0) f9 fl9 (by omega) (by rw [hRec_k hk1 hk3, if_pos hHk]; exact AgH_gb hA3 (by omega) (by omega) hsoo hbT hg1 hg2) (by omega)
              refine V.locs [2, 3, 4, 5, 6, 1, 0] (ls' := [(0, vR 36), (1, vR 10), (2, vR 35), (3, vR 1), (4, vI L), (5, vR 13), (6, vI (((nn σ : Nat) : Int) - 1))]) rfl ?_
              exact lp89 _ (nn σ) C2 N2 B2 f fl (by omega) (by have e6 : k = 6 := (by omega); subst e6; rw [Nat.sub_self]; exact hA) (Nat.lt_succ_self _)
            · skip
              refine V.iload (pc := 32) 5 dX2_reckon_32 rfl ?_
              refine V.iload (pc := 34) 4 dX2_reckon_34 rfl ?_
              refine V.icmp_eq (pc := 36) 63 dX2_reckon_36 (by decide) (fun h36 => ?_) (fun h36 => ?_)
              · skip
                refine V.iinc (pc := 63) (r := ((k + 1 : Nat) : Int)) 5 dX2_reckon_63 rfl (w32_of (by omega) (by omega) (by omega)) (by decide) (ls' := [(5, vI ((k + 1 : Nat) : Int)), (0, vR 36), (1, vR 10), (2, vR 35), (3, vR 1), (4, vI L)]) rfl ?_
                refine V.goto (pc := 66) 25 dX2_reckon_66 (by decide) ?_
                refine V.locs [1, 2, 3, 4, 5, 0] (ls' := [(0, vR 36), (1, vR 10), (2, vR 35), (3, vR 1), (4, vI L), (5, vI ((k + 1 : Nat) : Int))]) rfl ?_
                exact ih25 (k + 1) C2 N2 B2 (by omega) (by rw [hI_L (by omega)]; exact hA) (by omega)
              · skip
                refine V.aload_n (pc := 39) 1 dX2_reckon_39 rfl ?_
                refine V.gr (pc := 40) 0 1 12 flX2_49 dX2_reckon_40 (kS_10) (by decide) (by decide) rfl (kR_10_1) ?_
                refine V.iload (pc := 43) 5 dX2_reckon_43 rfl ?_
                refine V.ia (pc := 45) (len := 6) k (encC (te σ k)) dX2_reckon_45 (kS_12) (rfl) (by omega) (hC.2.2.1 k (by omega)) ?_
                refine V.iconst (pc := 46) (z := (-1)) dX2_reckon_46 rfl ⟨by decide, by decide⟩ ?_
                refine V.icmp_eq (pc := 47) 63 dX2_reckon_47 (by decide) (fun h47 => ?_) (fun h47 => ?_)
                · have htn : te σ k = none := encC_none.mp (by omega)
                  refine V.iinc (pc := 63) (r := ((k + 1 : Nat) : Int)) 5 dX2_reckon_63 rfl (w32_of (by omega) (by omega) (by omega)) (by decide) (ls' := [(5, vI ((k + 1 : Nat) : Int)), (0, vR 36), (1, vR 10), (2, vR 35), (3, vR 1), (4, vI L)]) rfl ?_
                  refine V.goto (pc := 66) 25 dX2_reckon_66 (by decide) ?_
                  refine V.locs [1, 2, 3, 4, 5, 0] (ls' := [(0, vR 36), (1, vR 10), (2, vR 35), (3, vR 1), (4, vI L), (5, vI ((k + 1 : Nat) : Int))]) rfl ?_
                  exact ih25 (k + 1) C2 N2 B2 (by omega) (by rw [hI_none htn]; exact hA) (by omega)
                · obtain ⟨w, hw⟩ := encC_some h47
                  have hwl := hwf.2.1 k (by omega) w hw
                  refine V.aload_n (pc := 50) 0 dX2_reckon_50 rfl ?_
                  refine V.iload (pc := 51) 5 dX2_reckon_51 rfl ?_
                  refine V.aload_n (pc := 53) 1 dX2_reckon_53 rfl ?_
                  refine V.gr (pc := 54) 0 1 12 flX2_49 dX2_reckon_54 (kS_10) (by decide) (by decide) rfl (kR_10_1) ?_
                  refine V.iload (pc := 57) 5 dX2_reckon_57 rfl ?_
                  refine V.ia (pc := 59) (len := 6) k ((w : Nat) : Int) dX2_reckon_59 (kS_12) (rfl) (by omega) ((hC.2.2.1 k (by omega)).trans (by rw [hw]; rfl)) ?_
                  refine V.callV (pc := 60) (e1 := eX2_bind) (o := 36) (c := 2) 2 [vI ((k : Nat) : Int), vI ((w : Nat) : Int)] [] mfX2_bind slX2_bind mlX2_55 dX2_reckon_60 (kS_36) (by decide) rfl rfl rfl (Nat.le_of_ble_eq_true rfl) ⟨by decide, by decide, by decide, by decide⟩ ?_
                  refine c_X2_bind_36 hi hl C2 N2 B2 f fl k (by omega) w (hwl) _ (fun g5 m5 hf5 => ?_)
                  refine V.qV (pc := 60) rfl rfl ?_
                  refine V.iinc (pc := 63) (r := ((k + 1 : Nat) : Int)) 5 dX2_reckon_63 rfl (w32_of (by omega) (by omega) (by omega)) (by decide) (ls' := [(5, vI ((k + 1 : Nat) : Int)), (0, vR 36), (1, vR 10), (2, vR 35), (3, vR 1), (4, vI L)]) rfl ?_
                  refine V.goto (pc := 66) 25 dX2_reckon_66 (by decide) ?_
                  refine V.locs [1, 2, 3, 4, 5, 0] (ls' := [(0, vR 36), (1, vR 10), (2, vR 35), (3, vR 1), (4, vI L), (5, vI ((k + 1 : Nat) : Int))]) rfl ?_
                  exact ih25 (k + 1) (upR C2 k g5) (upR N2 k m5) (updF B2 k 1) (by omega) (by rw [hI_b hw (by omega)]; exact AgH_up hA hf5 rfl) (by omega)
        refine V.locs [1, 2, 3, 4, 5, 0] (ls' := [(0, vR 36), (1, vR 10), (2, vR 35), (3, vR 1), (4, vI L), (5, vI 0)]) rfl ?_
        exact lp25 _ 0 C1 N1 B1 (by omega) (fun s hs => h1 s (by omega)) (Nat.lt_succ_self _)
      · skip
        refine V.aload_n (pc := 10) 0 dX2_reckon_10 rfl ?_
        refine V.iload (pc := 11) 5 dX2_reckon_11 rfl ?_
        refine V.callV (pc := 13) (e1 := eX2_free) (o := 36) (c := 2) 1 [vI ((k : Nat) : Int)] [] mfX2_free slX2_free mlX2_45 dX2_reckon_13 (kS_36) (by decide) rfl rfl rfl (Nat.le_of_ble_eq_true rfl) ⟨by decide, by decide, by decide, by decide⟩ ?_
        refine c_X2_free_36 hi hl C1 N1 B1 f fl k (by omega) _ (fun g1 m1 hf1 => ?_)
        refine V.qV (pc := 13) rfl rfl ?_
        refine V.iinc (pc := 16) (r := ((k + 1 : Nat) : Int)) 5 dX2_reckon_16 rfl (w32_of (by omega) (by omega) (by omega)) (by decide) (ls' := [(5, vI ((k + 1 : Nat) : Int)), (0, vR 36), (1, vR 10), (2, vR 35), (3, vR 1), (4, vI L)]) rfl ?_
        refine V.goto (pc := 19) 3 dX2_reckon_19 (by decide) ?_
        refine V.locs [1, 2, 3, 4, 5, 0] (ls' := [(0, vR 36), (1, vR 10), (2, vR 35), (3, vR 1), (4, vI L), (5, vI ((k + 1 : Nat) : Int))]) rfl ?_
        exact ih3 (k + 1) (upR C1 k g1) (upR N1 k m1) (updF B1 k 0) (by omega) (fun j hj => by by_cases e : j = k; { subst e; rw [updF_s, upR_s, upR_s]; exact ⟨rfl, hf1⟩ }; { rw [updF_n e, upR_n e, upR_n e]; exact h1 j (by omega) }) (by omega)
  refine V.locs [1, 2, 3, 4, 5, 0] (ls' := [(0, vR 36), (1, vR 10), (2, vR 35), (3, vR 1), (4, vI L), (5, vI 0)]) rfl ?_
  exact lp3 _ 0 C N B (by omega) (fun j hj => absurd hj (Nat.not_lt_zero j)) (Nat.lt_succ_self _)

set_option maxRecDepth 100000 in
theorem c_X2_free_54 (hi hl C N : HI) (B f fl : Nat → Int) (s : Nat) (hs : s ≤ 6) (Q : QT) (hq : ∀ g m : Nat → Int, (∀ v, v < 364 → g v = 0 ∧ m v = 1) → Q none KW (upR (upR (blk hi 56 (upR C s g)) 71 (updF B s 0)) 54 f) (upR (blk hl 64 (upR N s m)) 54 fl)) : Con eX2_free [vR 54, vI (s : Nat)] KW (upR (upR (blk hi 56 C) 71 B) 54 f) (upR (blk hl 64 N) 54 fl) Q := by
  refine Con.ofV (by decide +kernel) (Nat.le_of_ble_eq_true rfl) ?_
  show V eX2_free none KW 0 [(0, vR 54), (1, vI ((s : Nat) : Int))] [] (upR (upR (blk hi 56 C) 71 B) 54 f) (upR (blk hl 64 N) 54 fl) 0 0 Q
  refine V.hieq (hi' := (upR (upR (blk hi 56 (upR C s (C s))) 71 B) 54 f)) (by rw [upR_id]) ?_
  refine V.hleq (hl' := (upR (blk hl 64 (upR N s (N s))) 54 fl)) (by rw [upR_id]) ?_
  refine V.aload_n (pc := 0) 0 dX2_free_0 rfl ?_
  refine V.gr (pc := 1) 2 2 71 flX2_21 dX2_free_1 (kS_54) (by decide) (by decide) rfl (kR_54_2) ?_
  refine V.iload_n (pc := 4) 1 dX2_free_4 rfl ?_
  refine V.iconst (pc := 5) (z := 0) dX2_free_5 rfl ⟨by decide, by decide⟩ ?_
  refine V.zs (pc := 6) (len := 7) (hi' := (upR (upR (blk hi 56 (upR C s (C s))) 71 (updF B s 0)) 54 f)) s dX2_free_6 (kS_71) (rfl) (by omega) (Or.inl rfl) (us (by decide) u1) ?_
  refine V.iconst (pc := 7) (z := 0) dX2_free_7 rfl ⟨by decide, by decide⟩ ?_
  refine V.istore_n (pc := 8) (i := 2) dX2_free_8 rfl (by decide) (ls' := [(2, vI 0), (0, vR 54), (1, vI ((s : Nat) : Int))]) rfl ?_
  have lp9 : ∀ (fu9 : Nat) (k : Nat) (g : Nat → Int) (m : Nat → Int), (k ≤ 364) → (∀ j, j < k → g j = 0 ∧ m j = 1) → 364 - k < fu9 → V eX2_free none KW 9 [(0, vR 54), (1, vI ((s : Nat) : Int)), (2, vI ((k : Nat) : Int))] [] (upR (upR (blk hi 56 (upR C s g)) 71 (updF B s 0)) 54 f) (upR (blk hl 64 (upR N s m)) 54 fl) 0 0 Q := by
    intro fu9
    induction fu9 with
    | zero => intro k g m hk hC hm9; exact absurd hm9 (Nat.not_lt_zero _)
    | succ fu9 ih9 =>
      intro k g m hk hC hm9
      refine V.iload_n (pc := 9) 2 dX2_free_9 rfl ?_
      refine V.sipush (pc := 10) (z := 364) dX2_free_10 (by decide +kernel) ⟨by decide, by decide⟩ ?_
      refine V.icmp_ge (pc := 13) 40 dX2_free_13 (by decide) (fun h13 => ?_) (fun h13 => ?_)
      · skip
        refine V.vret (pc := 40) dX2_free_40 rfl ?_
        exact hq _ _ (fun j hj => hC j (by omega))
      · skip
        refine V.aload_n (pc := 16) 0 dX2_free_16 rfl ?_
        refine V.gr (pc := 17) 2 0 55 flX2_11 dX2_free_17 (kS_54) (by decide) (by decide) rfl (kR_54_0) ?_
        refine V.iload_n (pc := 20) 1 dX2_free_20 rfl ?_
        refine V.aald (pc := 21) (o' := ((56 + s))) (len := 7) (t := 1) s dX2_free_21 (kS_55) (by decide) (kD_55 (by omega)) (rfl) (by omega) ?_
        refine V.iload_n (pc := 22) 2 dX2_free_22 rfl ?_
        refine V.iconst (pc := 23) (z := 0) dX2_free_23 rfl ⟨by decide, by decide⟩ ?_
        refine V.is (pc := 24) (len := 364) (hi' := (upR (upR (blk hi 56 (upR C s (updF g k 0))) 71 (updF B s 0)) 54 f)) k dX2_free_24 (kE_56 (by omega)) (rfl) (by omega) (us (by omega) (us (by omega) (ublk (by omega) u1))) ?_
        refine V.aload_n (pc := 25) 0 dX2_free_25 rfl ?_
        refine V.gr (pc := 26) 2 1 63 flX2_18 dX2_free_26 (kS_54) (by decide) (by decide) rfl (kR_54_1) ?_
        refine V.iload_n (pc := 29) 1 dX2_free_29 rfl ?_
        refine V.aald (pc := 30) (o' := ((64 + s))) (len := 7) (t := 2) s dX2_free_30 (kS_63) (by decide) (kD_63 (by omega)) (rfl) (by omega) ?_
        refine V.iload_n (pc := 31) 2 dX2_free_31 rfl ?_
        refine V.lconst (pc := 32) (z := 1) dX2_free_32 (by decide +kernel) ⟨by decide, by decide⟩ ?_
        refine V.js (pc := 33) (len := 364) (hl' := (upR (blk hl 64 (upR N s (updF m k 1))) 54 fl)) k dX2_free_33 (kE_64 (by omega)) (rfl) (by omega) (us (by omega) (ublk (by omega) u1)) ?_
        refine V.iinc (pc := 34) (r := ((k + 1 : Nat) : Int)) 2 dX2_free_34 rfl (w32_of (by omega) (by omega) (by omega)) (by decide) (ls' := [(2, vI ((k + 1 : Nat) : Int)), (0, vR 54), (1, vI ((s : Nat) : Int))]) rfl ?_
        refine V.goto (pc := 37) 9 dX2_free_37 (by decide) ?_
        refine V.locs [1, 2, 0] (ls' := [(0, vR 54), (1, vI ((s : Nat) : Int)), (2, vI ((k + 1 : Nat) : Int))]) rfl ?_
        exact ih9 (k + 1) (updF g k 0) (updF m k 1) (by omega) (fun j hj => by by_cases e : j = k; { subst e; rw [updF_s, updF_s]; exact ⟨rfl, rfl⟩ }; { rw [updF_n e, updF_n e]; exact hC j (by omega) }) (by omega)
  refine V.locs [1, 2, 0] (ls' := [(0, vR 54), (1, vI ((s : Nat) : Int)), (2, vI 0)]) rfl ?_
  exact lp9 _ 0 (C s) (N s) (by omega) (fun j hj => absurd hj (Nat.not_lt_zero j)) (Nat.lt_succ_self _)

set_option maxRecDepth 100000 in
theorem c_X2_forbid_54 (hi hl C N : HI) (B f fl : Nat → Int) (s : Nat) (hs : s ≤ 6) (Q : QT) (hq : ∀ g m : Nat → Int, (∀ v, v < 364 → g v = 1000 ∧ m v = 0) → Q none KW (upR (upR (blk hi 56 (upR C s g)) 71 (updF B s 1)) 54 f) (upR (blk hl 64 (upR N s m)) 54 fl)) : Con eX2_forbid [vR 54, vI (s : Nat)] KW (upR (upR (blk hi 56 C) 71 B) 54 f) (upR (blk hl 64 N) 54 fl) Q := by
  refine Con.ofV (by decide +kernel) (Nat.le_of_ble_eq_true rfl) ?_
  show V eX2_forbid none KW 0 [(0, vR 54), (1, vI ((s : Nat) : Int))] [] (upR (upR (blk hi 56 C) 71 B) 54 f) (upR (blk hl 64 N) 54 fl) 0 0 Q
  refine V.hieq (hi' := (upR (upR (blk hi 56 (upR C s (C s))) 71 B) 54 f)) (by rw [upR_id]) ?_
  refine V.hleq (hl' := (upR (blk hl 64 (upR N s (N s))) 54 fl)) (by rw [upR_id]) ?_
  refine V.aload_n (pc := 0) 0 dX2_forbid_0 rfl ?_
  refine V.gr (pc := 1) 2 2 71 flX2_21 dX2_forbid_1 (kS_54) (by decide) (by decide) rfl (kR_54_2) ?_
  refine V.iload_n (pc := 4) 1 dX2_forbid_4 rfl ?_
  refine V.iconst (pc := 5) (z := 1) dX2_forbid_5 rfl ⟨by decide, by decide⟩ ?_
  refine V.zs (pc := 6) (len := 7) (hi' := (upR (upR (blk hi 56 (upR C s (C s))) 71 (updF B s 1)) 54 f)) s dX2_forbid_6 (kS_71) (rfl) (by omega) (Or.inr rfl) (us (by decide) u1) ?_
  refine V.iconst (pc := 7) (z := 0) dX2_forbid_7 rfl ⟨by decide, by decide⟩ ?_
  refine V.istore_n (pc := 8) (i := 2) dX2_forbid_8 rfl (by decide) (ls' := [(2, vI 0), (0, vR 54), (1, vI ((s : Nat) : Int))]) rfl ?_
  have lp9 : ∀ (fu9 : Nat) (k : Nat) (g : Nat → Int) (m : Nat → Int), (k ≤ 364) → (∀ j, j < k → g j = 1000 ∧ m j = 0) → 364 - k < fu9 → V eX2_forbid none KW 9 [(0, vR 54), (1, vI ((s : Nat) : Int)), (2, vI ((k : Nat) : Int))] [] (upR (upR (blk hi 56 (upR C s g)) 71 (updF B s 1)) 54 f) (upR (blk hl 64 (upR N s m)) 54 fl) 0 0 Q := by
    intro fu9
    induction fu9 with
    | zero => intro k g m hk hC hm9; exact absurd hm9 (Nat.not_lt_zero _)
    | succ fu9 ih9 =>
      intro k g m hk hC hm9
      refine V.iload_n (pc := 9) 2 dX2_forbid_9 rfl ?_
      refine V.sipush (pc := 10) (z := 364) dX2_forbid_10 (by decide +kernel) ⟨by decide, by decide⟩ ?_
      refine V.icmp_ge (pc := 13) 42 dX2_forbid_13 (by decide) (fun h13 => ?_) (fun h13 => ?_)
      · skip
        refine V.vret (pc := 42) dX2_forbid_42 rfl ?_
        exact hq _ _ (fun j hj => hC j (by omega))
      · skip
        refine V.aload_n (pc := 16) 0 dX2_forbid_16 rfl ?_
        refine V.gr (pc := 17) 2 0 55 flX2_11 dX2_forbid_17 (kS_54) (by decide) (by decide) rfl (kR_54_0) ?_
        refine V.iload_n (pc := 20) 1 dX2_forbid_20 rfl ?_
        refine V.aald (pc := 21) (o' := ((56 + s))) (len := 7) (t := 1) s dX2_forbid_21 (kS_55) (by decide) (kD_55 (by omega)) (rfl) (by omega) ?_
        refine V.iload_n (pc := 22) 2 dX2_forbid_22 rfl ?_
        refine V.sipush (pc := 23) (z := 1000) dX2_forbid_23 (by decide +kernel) ⟨by decide, by decide⟩ ?_
        refine V.is (pc := 26) (len := 364) (hi' := (upR (upR (blk hi 56 (upR C s (updF g k 1000))) 71 (updF B s 1)) 54 f)) k dX2_forbid_26 (kE_56 (by omega)) (rfl) (by omega) (us (by omega) (us (by omega) (ublk (by omega) u1))) ?_
        refine V.aload_n (pc := 27) 0 dX2_forbid_27 rfl ?_
        refine V.gr (pc := 28) 2 1 63 flX2_18 dX2_forbid_28 (kS_54) (by decide) (by decide) rfl (kR_54_1) ?_
        refine V.iload_n (pc := 31) 1 dX2_forbid_31 rfl ?_
        refine V.aald (pc := 32) (o' := ((64 + s))) (len := 7) (t := 2) s dX2_forbid_32 (kS_63) (by decide) (kD_63 (by omega)) (rfl) (by omega) ?_
        refine V.iload_n (pc := 33) 2 dX2_forbid_33 rfl ?_
        refine V.lconst (pc := 34) (z := 0) dX2_forbid_34 (by decide +kernel) ⟨by decide, by decide⟩ ?_
        refine V.js (pc := 35) (len := 364) (hl' := (upR (blk hl 64 (upR N s (updF m k 0))) 54 fl)) k dX2_forbid_35 (kE_64 (by omega)) (rfl) (by omega) (us (by omega) (ublk (by omega) u1)) ?_
        refine V.iinc (pc := 36) (r := ((k + 1 : Nat) : Int)) 2 dX2_forbid_36 rfl (w32_of (by omega) (by omega) (by omega)) (by decide) (ls' := [(2, vI ((k + 1 : Nat) : Int)), (0, vR 54), (1, vI ((s : Nat) : Int))]) rfl ?_
        refine V.goto (pc := 39) 9 dX2_forbid_39 (by decide) ?_
        refine V.locs [1, 2, 0] (ls' := [(0, vR 54), (1, vI ((s : Nat) : Int)), (2, vI ((k + 1 : Nat) : Int))]) rfl ?_
        exact ih9 (k + 1) (updF g k 1000) (updF m k 0) (by omega) (fun j hj => by by_cases e : j = k; { subst e; rw [updF_s, updF_s]; exact ⟨rfl, rfl⟩ }; { rw [updF_n e, updF_n e]; exact hC j (by omega) }) (by omega)
  refine V.locs [1, 2, 0] (ls' := [(0, vR 54), (1, vI ((s : Nat) : Int)), (2, vI 0)]) rfl ?_
  exact lp9 _ 0 (C s) (N s) (by omega) (fun j hj => absurd hj (Nat.not_lt_zero j)) (Nat.lt_succ_self _)

set_option maxRecDepth 100000 in
theorem c_X2_bind_54 (hi hl C N : HI) (B f fl : Nat → Int) (s : Nat) (hs : s ≤ 6) (w : Nat) (hw : w < 364) (Q : QT) (hq : ∀ g m : Nat → Int, (∀ v, v < 364 → g v = (if v = w then 0 else 1000) ∧ m v = (if v = w then 1 else 0)) → Q none KW (upR (upR (blk hi 56 (upR C s g)) 71 (updF B s 1)) 54 f) (upR (blk hl 64 (upR N s m)) 54 fl)) : Con eX2_bind [vR 54, vI (s : Nat), vI (w : Nat)] KW (upR (upR (blk hi 56 C) 71 B) 54 f) (upR (blk hl 64 N) 54 fl) Q := by
  refine Con.ofV (by decide +kernel) (Nat.le_of_ble_eq_true rfl) ?_
  show V eX2_bind none KW 0 [(0, vR 54), (1, vI ((s : Nat) : Int)), (2, vI ((w : Nat) : Int))] [] (upR (upR (blk hi 56 C) 71 B) 54 f) (upR (blk hl 64 N) 54 fl) 0 0 Q
  refine V.aload_n (pc := 0) 0 dX2_bind_0 rfl ?_
  refine V.iload_n (pc := 1) 1 dX2_bind_1 rfl ?_
  refine V.callV (pc := 2) (e1 := eX2_forbid) (o := 54) (c := 2) 1 [vI ((s : Nat) : Int)] [] mfX2_forbid slX2_forbid mlX2_91 dX2_bind_2 (kS_54) (by decide) rfl rfl rfl (Nat.le_of_ble_eq_true rfl) ⟨by decide, by decide, by decide, by decide⟩ ?_
  refine c_X2_forbid_54 hi hl C N B f fl s (by omega) _ (fun g1 m1 hf => ?_)
  refine V.qV (pc := 2) rfl rfl ?_
  refine V.iload_n (pc := 5) 2 dX2_bind_5 rfl ?_
  refine V.if_lt (pc := 6) 16 dX2_bind_6 (by decide) (fun hc => by exfalso; omega) (fun h6 => ?_)
  refine V.iload_n (pc := 9) 2 dX2_bind_9 rfl ?_
  refine V.sipush (pc := 10) (z := 364) dX2_bind_10 (by decide +kernel) ⟨by decide, by decide⟩ ?_
  refine V.icmp_lt (pc := 13) 17 dX2_bind_13 (by decide) (fun h13 => ?_) (fun hc => by exfalso; omega)
  refine V.aload_n (pc := 17) 0 dX2_bind_17 rfl ?_
  refine V.gr (pc := 18) 2 0 55 flX2_11 dX2_bind_18 (kS_54) (by decide) (by decide) rfl (kR_54_0) ?_
  refine V.iload_n (pc := 21) 1 dX2_bind_21 rfl ?_
  refine V.aald (pc := 22) (o' := ((56 + s))) (len := 7) (t := 1) s dX2_bind_22 (kS_55) (by decide) (kD_55 (by omega)) (rfl) (by omega) ?_
  refine V.iload_n (pc := 23) 2 dX2_bind_23 rfl ?_
  refine V.iconst (pc := 24) (z := 0) dX2_bind_24 rfl ⟨by decide, by decide⟩ ?_
  refine V.is (pc := 25) (len := 364) (hi' := (upR (upR (blk hi 56 (upR C s (updF g1 w 0))) 71 (updF B s 1)) 54 f)) w dX2_bind_25 (kE_56 (by omega)) (rfl) (by omega) (us (by omega) (us (by omega) (ublk (by omega) u1))) ?_
  refine V.aload_n (pc := 26) 0 dX2_bind_26 rfl ?_
  refine V.gr (pc := 27) 2 1 63 flX2_18 dX2_bind_27 (kS_54) (by decide) (by decide) rfl (kR_54_1) ?_
  refine V.iload_n (pc := 30) 1 dX2_bind_30 rfl ?_
  refine V.aald (pc := 31) (o' := ((64 + s))) (len := 7) (t := 2) s dX2_bind_31 (kS_63) (by decide) (kD_63 (by omega)) (rfl) (by omega) ?_
  refine V.iload_n (pc := 32) 2 dX2_bind_32 rfl ?_
  refine V.lconst (pc := 33) (z := 1) dX2_bind_33 (by decide +kernel) ⟨by decide, by decide⟩ ?_
  refine V.js (pc := 34) (len := 364) (hl' := (upR (blk hl 64 (upR N s (updF m1 w 1))) 54 fl)) w dX2_bind_34 (kE_64 (by omega)) (rfl) (by omega) (us (by omega) (ublk (by omega) u1)) ?_
  refine V.vret (pc := 35) dX2_bind_35 rfl ?_
  exact hq _ _ (fun v hv => by
    by_cases e : v = w
    · rw [if_pos e, if_pos e, e, updF_s, updF_s]; exact ⟨rfl, rfl⟩
    · rw [if_neg e, if_neg e, updF_n e, updF_n e]; exact hf v hv)

set_option maxRecDepth 100000 in
theorem c_X2_weigh_54 (hi hl C N : HI) (B f fl : Nat → Int) (hT : TB (hi 2) (hi 3)) (h so v : Nat) (hh : h ≤ 6) (hso : so ≤ 4) (hv : v < 364) (hb : ∀ j, j < 364 → 0 ≤ C h j ∧ C h j ≤ 1000) (Q : QT) (hq : ∀ f' fl' : Nat → Int, f' 3 = (wg (C h) (N h) so v).1 → fl' 4 = (wg (C h) (N h) so v).2 → Q none KW (upR (upR (blk hi 56 C) 71 B) 54 f') (upR (blk hl 64 N) 54 fl')) : Con eX2_weigh [vR 54, vI (h : Nat), vI (so : Nat), vI (v : Nat), vR 1] KW (upR (upR (blk hi 56 C) 71 B) 54 f) (upR (blk hl 64 N) 54 fl) Q := by
  refine Con.ofV (by decide +kernel) (Nat.le_of_ble_eq_true rfl) ?_
  show V eX2_weigh none KW 0 [(0, vR 54), (1, vI ((h : Nat) : Int)), (2, vI ((so : Nat) : Int)), (3, vI ((v : Nat) : Int)), (4, vR 1)] [] (upR (upR (blk hi 56 C) 71 B) 54 f) (upR (blk hl 64 N) 54 fl) 0 0 Q
  refine V.aload_n (pc := 0) 0 dX2_weigh_0 rfl ?_
  refine V.aload_n (pc := 1) 0 dX2_weigh_1 rfl ?_
  refine V.gr (pc := 2) 2 0 55 flX2_11 dX2_weigh_2 (kS_54) (by decide) (by decide) rfl (kR_54_0) ?_
  refine V.iload_n (pc := 5) 1 dX2_weigh_5 rfl ?_
  refine V.aald (pc := 6) (o' := ((56 + h))) (len := 7) (t := 1) h dX2_weigh_6 (kS_55) (by decide) (kD_55 (by omega)) (rfl) (by omega) ?_
  refine V.iload_n (pc := 7) 3 dX2_weigh_7 rfl ?_
  refine V.ia (pc := 8) (len := 364) v ((C h) v) dX2_weigh_8 (kE_56 (by omega)) (rfl) (by omega) (by rw [upR_n (by omega), upR_n (by omega), blk_in (by omega)]) ?_
  refine V.pi (pc := 9) (hi' := (upR (upR (blk hi 56 C) 71 B) 54 (updF f 3 ((C h) v)))) 2 3 flX2_25 dX2_weigh_9 (kS_54) (by decide) (by decide) rfl rfl u1 ?_
  refine V.aload_n (pc := 12) 0 dX2_weigh_12 rfl ?_
  refine V.aload_n (pc := 13) 0 dX2_weigh_13 rfl ?_
  refine V.gr (pc := 14) 2 1 63 flX2_18 dX2_weigh_14 (kS_54) (by decide) (by decide) rfl (kR_54_1) ?_
  refine V.iload_n (pc := 17) 1 dX2_weigh_17 rfl ?_
  refine V.aald (pc := 18) (o' := ((64 + h))) (len := 7) (t := 2) h dX2_weigh_18 (kS_63) (by decide) (kD_63 (by omega)) (rfl) (by omega) ?_
  refine V.iload_n (pc := 19) 3 dX2_weigh_19 rfl ?_
  refine V.la (pc := 20) (len := 364) v ((N h) v) dX2_weigh_20 (kE_64 (by omega)) (rfl) (by omega) (by rw [upR_n (by omega), blk_in (by omega)]) ?_
  refine V.pj (pc := 21) (hl' := (upR (blk hl 64 N) 54 (updF fl 4 ((N h) v)))) 2 4 flX2_29 dX2_weigh_21 (kS_54) (by decide) (by decide) rfl rfl u1 ?_
  refine V.aload (pc := 24) 4 dX2_weigh_24 rfl ?_
  refine V.iload_n (pc := 26) 2 dX2_weigh_26 rfl ?_
  refine V.iload_n (pc := 27) 3 dX2_weigh_27 rfl ?_
  refine V.callV (pc := 28) (e1 := eX4_count) (o := 1) (c := 4) 2 [vI ((so : Nat) : Int), vI ((v : Nat) : Int)] [] mfX4_count slX4_count mlX2_109 dX2_weigh_28 (kS_1) (by decide) rfl rfl rfl (Nat.le_of_ble_eq_true rfl) ⟨by decide, by decide, by decide, by decide⟩ ?_
  refine c_X4_count (upR (upR (blk hi 56 C) 71 B) 54 (updF f 3 ((C h) v))) (upR (blk hl 64 N) 54 (updF fl 4 ((N h) v))) (hT) so v (by omega) (by omega) _ ?_
  refine V.qI (pc := 28) rfl rfl ?_
  refine V.istore (pc := 31) (i := 5) dX2_weigh_31 (by decide) (ls' := [(5, vI ((slN so v : Nat) : Int)), (0, vR 54), (1, vI ((h : Nat) : Int)), (2, vI ((so : Nat) : Int)), (3, vI ((v : Nat) : Int)), (4, vR 1)]) rfl ?_
  refine V.iconst (pc := 33) (z := 1) dX2_weigh_33 rfl ⟨by decide, by decide⟩ ?_
  refine V.istore (pc := 34) (i := 6) dX2_weigh_34 (by decide) (ls' := [(6, vI 1), (5, vI ((slN so v : Nat) : Int)), (0, vR 54), (1, vI ((h : Nat) : Int)), (2, vI ((so : Nat) : Int)), (3, vI ((v : Nat) : Int)), (4, vR 1)]) rfl ?_
  have lp36 : ∀ (fu36 : Nat) (k : Nat) (f1 : Nat → Int) (fl1 : Nat → Int), (k ≤ slN so v) → (f1 3 = (wgs (C h) (N h) so v k).1) → (fl1 4 = (wgs (C h) (N h) so v k).2) → slN so v - k < fu36 → V eX2_weigh none KW 36 [(0, vR 54), (1, vI ((h : Nat) : Int)), (2, vI ((so : Nat) : Int)), (3, vI ((v : Nat) : Int)), (4, vR 1), (5, vI ((slN so v : Nat) : Int)), (6, vI ((k + 1 : Nat) : Int))] [] (upR (upR (blk hi 56 C) 71 B) 54 f1) (upR (blk hl 64 N) 54 fl1) 0 0 Q := by
    intro fu36
    induction fu36 with
    | zero => intro k f1 fl1 hk h3 h4 hm36; exact absurd hm36 (Nat.not_lt_zero _)
    | succ fu36 ih36 =>
      intro k f1 fl1 hk h3 h4 hm36
      have hnl := nth_lt (n := k + 1) hso hv
      have hcx := hb _ hnl
      have hwb := wgs_b (n := N h) hso hv hb k
      have h15 := slN_15 hso hv
      refine V.iload (pc := 36) 6 dX2_weigh_36 rfl ?_
      refine V.iload (pc := 38) 5 dX2_weigh_38 rfl ?_
      refine V.icmp_gt (pc := 40) 146 dX2_weigh_40 (by decide) (fun h40 => ?_) (fun h40 => ?_)
      · skip
        refine V.vret (pc := 146) dX2_weigh_146 rfl ?_
        have e : k = slN so v := by omega
        exact hq _ _ (by unfold wg; rw [← e]; exact h3) (by unfold wg; rw [← e]; exact h4)
      · skip
        refine V.aload (pc := 43) 4 dX2_weigh_43 rfl ?_
        refine V.iload_n (pc := 45) 2 dX2_weigh_45 rfl ?_
        refine V.iload_n (pc := 46) 3 dX2_weigh_46 rfl ?_
        refine V.iload (pc := 47) 6 dX2_weigh_47 rfl ?_
        refine V.callV (pc := 49) (e1 := eX4_numbered) (o := 1) (c := 4) 3 [vI ((so : Nat) : Int), vI ((v : Nat) : Int), vI ((k + 1 : Nat) : Int)] [] mfX4_numbered slX4_numbered mlX2_114 dX2_weigh_49 (kS_1) (by decide) rfl rfl rfl (Nat.le_of_ble_eq_true rfl) ⟨by decide, by decide, by decide, by decide⟩ ?_
        refine c_X4_numbered (upR (upR (blk hi 56 C) 71 B) 54 f1) (upR (blk hl 64 N) 54 fl1) (hT) so v (k + 1) (by omega) (by omega) _ ?_
        refine V.qI (pc := 49) rfl rfl ?_
        refine V.istore (pc := 52) (i := 7) dX2_weigh_52 (by decide) (ls' := [(7, vI ((nth so v (k + 1) : Nat) : Int)), (0, vR 54), (1, vI ((h : Nat) : Int)), (2, vI ((so : Nat) : Int)), (3, vI ((v : Nat) : Int)), (4, vR 1), (5, vI ((slN so v : Nat) : Int)), (6, vI ((k + 1 : Nat) : Int))]) rfl ?_
        refine V.iload (pc := 54) 0 dX2_weigh_54 rfl ?_
        refine V.if_lt (pc := 56) 140 dX2_weigh_56 (by decide) (fun hc => by exfalso; omega) (fun h56 => ?_)
        refine V.iload (pc := 59) 0 dX2_weigh_59 rfl ?_
        refine V.sipush (pc := 61) (z := 364) dX2_weigh_61 (by decide +kernel) ⟨by decide, by decide⟩ ?_
        refine V.icmp_lt (pc := 64) 70 dX2_weigh_64 (by decide) (fun h64 => ?_) (fun hc => by exfalso; omega)
        refine V.aload_n (pc := 70) 1 dX2_weigh_70 rfl ?_
        refine V.gr (pc := 71) 2 0 55 flX2_11 dX2_weigh_71 (kS_54) (by decide) (by decide) rfl (kR_54_0) ?_
        refine V.iload_n (pc := 74) 2 dX2_weigh_74 rfl ?_
        refine V.aald (pc := 75) (o' := ((56 + h))) (len := 7) (t := 1) h dX2_weigh_75 (kS_55) (by decide) (kD_55 (by omega)) (rfl) (by omega) ?_
        refine V.iload (pc := 76) 0 dX2_weigh_76 rfl ?_
        refine V.ia (pc := 78) (len := 364) (nth so v (k + 1)) ((C h) (nth so v (k + 1))) dX2_weigh_78 (kE_56 (by omega)) (rfl) (by omega) (by rw [upR_n (by omega), upR_n (by omega), blk_in (by omega)]) ?_
        refine V.iconst (pc := 79) (z := 1) dX2_weigh_79 rfl ⟨by decide, by decide⟩ ?_
        refine V.iadd (pc := 80) (((C h (nth so v (k + 1))) + 1)) dX2_weigh_80 (w32_of (by omega) (by omega) (by omega)) ?_
        refine V.istore (pc := 81) (i := 8) dX2_weigh_81 (by decide) (ls' := [(8, vI ((C h (nth so v (k + 1))) + 1)), (7, vI ((nth so v (k + 1) : Nat) : Int)), (0, vR 54), (1, vI ((h : Nat) : Int)), (2, vI ((so : Nat) : Int)), (3, vI ((v : Nat) : Int)), (4, vR 1), (5, vI ((slN so v : Nat) : Int)), (6, vI ((k + 1 : Nat) : Int))]) rfl ?_
        refine V.iload (pc := 83) 0 dX2_weigh_83 rfl ?_
        refine V.aload_n (pc := 85) 2 dX2_weigh_85 rfl ?_
        refine V.gi (pc := 86) 2 3 ((wgs (C h) (N h) so v k).1) flX2_25 dX2_weigh_86 (kS_54) (by decide) (by decide) rfl (h3) ?_
        refine V.icmp_le (pc := 89) 95 dX2_weigh_89 (by decide) (fun h89 => ?_) (fun h89 => ?_)
        · skip
          refine V.aload_n (pc := 95) 2 dX2_weigh_95 rfl ?_
          refine V.iload (pc := 96) 0 dX2_weigh_96 rfl ?_
          refine V.aload_n (pc := 98) 2 dX2_weigh_98 rfl ?_
          refine V.gi (pc := 99) 2 3 ((wgs (C h) (N h) so v k).1) flX2_25 dX2_weigh_99 (kS_54) (by decide) (by decide) rfl (h3) ?_
          refine V.icmp_ge (pc := 102) 117 dX2_weigh_102 (by decide) (fun h102 => ?_) (fun h102 => ?_)
          · skip
            refine V.aload_n (pc := 117) 2 dX2_weigh_117 rfl ?_
            refine V.gj (pc := 118) 2 4 (fl1 4) flX2_29 dX2_weigh_118 (kS_54) (by decide) (by decide) rfl (rfl) ?_
            refine V.aload_n (pc := 121) 2 dX2_weigh_121 rfl ?_
            refine V.gr (pc := 122) 2 1 63 flX2_18 dX2_weigh_122 (kS_54) (by decide) (by decide) rfl (kR_54_1) ?_
            refine V.iload_n (pc := 125) 3 dX2_weigh_125 rfl ?_
            refine V.aald (pc := 126) (o' := ((64 + h))) (len := 7) (t := 2) h dX2_weigh_126 (kS_63) (by decide) (kD_63 (by omega)) (rfl) (by omega) ?_
            refine V.iload (pc := 127) 1 dX2_weigh_127 rfl ?_
            refine V.la (pc := 129) (len := 364) (nth so v (k + 1)) ((N h) (nth so v (k + 1))) dX2_weigh_129 (kE_64 (by omega)) (rfl) (by omega) (by rw [upR_n (by omega), blk_in (by omega)]) ?_
            refine V.ladd (pc := 130) ((w64 ((wgs (C h) (N h) so v k).2 + (N h (nth so v (k + 1)))))) dX2_weigh_130 (by rw [h4]) ?_
            refine V.pj (pc := 131) (hl' := (upR (blk hl 64 N) 54 (updF fl1 4 (w64 ((wgs (C h) (N h) so v k).2 + (N h (nth so v (k + 1)))))))) 2 4 flX2_29 dX2_weigh_131 (kS_54) (by decide) (by decide) rfl rfl u1 ?_
            refine V.aload_n (pc := 134) 2 dX2_weigh_134 rfl ?_
            refine V.iload (pc := 135) 0 dX2_weigh_135 rfl ?_
            refine V.pi (pc := 137) (hi' := (upR (upR (blk hi 56 C) 71 B) 54 (updF f1 3 ((C h (nth so v (k + 1))) + 1)))) 2 3 flX2_25 dX2_weigh_137 (kS_54) (by decide) (by decide) rfl rfl u1 ?_
            refine V.iinc (pc := 140) (r := ((k + 1 + 1 : Nat) : Int)) 8 dX2_weigh_140 rfl (w32_of (by omega) (by omega) (by omega)) (by decide) (ls' := [(6, vI ((k + 1 + 1 : Nat) : Int)), (8, vI ((C h (nth so v (k + 1))) + 1)), (7, vI ((nth so v (k + 1) : Nat) : Int)), (0, vR 54), (1, vI ((h : Nat) : Int)), (2, vI ((so : Nat) : Int)), (3, vI ((v : Nat) : Int)), (4, vR 1), (5, vI ((slN so v : Nat) : Int))]) rfl ?_
            refine V.goto (pc := 143) 36 dX2_weigh_143 (by decide) ?_
            refine V.locs [3, 4, 5, 6, 7, 8, 0] (ls' := [(0, vR 54), (1, vI ((h : Nat) : Int)), (2, vI ((so : Nat) : Int)), (3, vI ((v : Nat) : Int)), (4, vR 1), (5, vI ((slN so v : Nat) : Int)), (6, vI ((k + 1 + 1 : Nat) : Int))]) rfl ?_
            exact ih36 (k + 1) (updF f1 3 ((C h (nth so v (k + 1))) + 1)) (updF fl1 4 (w64 ((wgs (C h) (N h) so v k).2 + (N h (nth so v (k + 1)))))) (by omega) (by rw [wgs_eq (by omega) (by omega), updF_s]) (by rw [wgs_eq (by omega) (by omega), updF_s]) (by omega)
          · skip
            refine V.aload_n (pc := 105) 2 dX2_weigh_105 rfl ?_
            refine V.gr (pc := 106) 2 1 63 flX2_18 dX2_weigh_106 (kS_54) (by decide) (by decide) rfl (kR_54_1) ?_
            refine V.iload_n (pc := 109) 3 dX2_weigh_109 rfl ?_
            refine V.aald (pc := 110) (o' := ((64 + h))) (len := 7) (t := 2) h dX2_weigh_110 (kS_63) (by decide) (kD_63 (by omega)) (rfl) (by omega) ?_
            refine V.iload (pc := 111) 1 dX2_weigh_111 rfl ?_
            refine V.la (pc := 113) (len := 364) (nth so v (k + 1)) ((N h) (nth so v (k + 1))) dX2_weigh_113 (kE_64 (by omega)) (rfl) (by omega) (by rw [upR_n (by omega), blk_in (by omega)]) ?_
            refine V.goto (pc := 114) 131 dX2_weigh_114 (by decide) ?_
            refine V.pj (pc := 131) (hl' := (upR (blk hl 64 N) 54 (updF fl1 4 ((N h) (nth so v (k + 1)))))) 2 4 flX2_29 dX2_weigh_131 (kS_54) (by decide) (by decide) rfl rfl u1 ?_
            refine V.aload_n (pc := 134) 2 dX2_weigh_134 rfl ?_
            refine V.iload (pc := 135) 0 dX2_weigh_135 rfl ?_
            refine V.pi (pc := 137) (hi' := (upR (upR (blk hi 56 C) 71 B) 54 (updF f1 3 ((C h (nth so v (k + 1))) + 1)))) 2 3 flX2_25 dX2_weigh_137 (kS_54) (by decide) (by decide) rfl rfl u1 ?_
            refine V.iinc (pc := 140) (r := ((k + 1 + 1 : Nat) : Int)) 8 dX2_weigh_140 rfl (w32_of (by omega) (by omega) (by omega)) (by decide) (ls' := [(6, vI ((k + 1 + 1 : Nat) : Int)), (8, vI ((C h (nth so v (k + 1))) + 1)), (7, vI ((nth so v (k + 1) : Nat) : Int)), (0, vR 54), (1, vI ((h : Nat) : Int)), (2, vI ((so : Nat) : Int)), (3, vI ((v : Nat) : Int)), (4, vR 1), (5, vI ((slN so v : Nat) : Int))]) rfl ?_
            refine V.goto (pc := 143) 36 dX2_weigh_143 (by decide) ?_
            refine V.locs [3, 4, 5, 6, 7, 8, 0] (ls' := [(0, vR 54), (1, vI ((h : Nat) : Int)), (2, vI ((so : Nat) : Int)), (3, vI ((v : Nat) : Int)), (4, vR 1), (5, vI ((slN so v : Nat) : Int)), (6, vI ((k + 1 + 1 : Nat) : Int))]) rfl ?_
            exact ih36 (k + 1) (updF f1 3 ((C h (nth so v (k + 1))) + 1)) (updF fl1 4 ((N h) (nth so v (k + 1)))) (by omega) (by rw [wgs_lt (by omega), updF_s]) (by rw [wgs_lt (by omega), updF_s]) (by omega)
        · skip
          refine V.goto (pc := 92) 140 dX2_weigh_92 (by decide) ?_
          refine V.iinc (pc := 140) (r := ((k + 1 + 1 : Nat) : Int)) 8 dX2_weigh_140 rfl (w32_of (by omega) (by omega) (by omega)) (by decide) (ls' := [(6, vI ((k + 1 + 1 : Nat) : Int)), (8, vI ((C h (nth so v (k + 1))) + 1)), (7, vI ((nth so v (k + 1) : Nat) : Int)), (0, vR 54), (1, vI ((h : Nat) : Int)), (2, vI ((so : Nat) : Int)), (3, vI ((v : Nat) : Int)), (4, vR 1), (5, vI ((slN so v : Nat) : Int))]) rfl ?_
          refine V.goto (pc := 143) 36 dX2_weigh_143 (by decide) ?_
          refine V.locs [3, 4, 5, 6, 7, 8, 0] (ls' := [(0, vR 54), (1, vI ((h : Nat) : Int)), (2, vI ((so : Nat) : Int)), (3, vI ((v : Nat) : Int)), (4, vR 1), (5, vI ((slN so v : Nat) : Int)), (6, vI ((k + 1 + 1 : Nat) : Int))]) rfl ?_
          exact ih36 (k + 1) f1 fl1 (by omega) (by rw [wgs_skip (by omega)]; exact h3) (by rw [wgs_skip (by omega)]; exact h4) (by omega)
  refine V.locs [2, 3, 4, 5, 6, 1, 0] (ls' := [(0, vR 54), (1, vI ((h : Nat) : Int)), (2, vI ((so : Nat) : Int)), (3, vI ((v : Nat) : Int)), (4, vR 1), (5, vI ((slN so v : Nat) : Int)), (6, vI 1)]) rfl ?_
  exact lp36 _ 0 (updF f 3 ((C h) v)) (updF fl 4 ((N h) v)) (by omega) (by show updF f 3 (C h v) 3 = C h v; rw [updF_s]) (by show updF fl 4 (N h v) 4 = N h v; rw [updF_s]) (Nat.lt_succ_self _)

set_option maxRecDepth 100000 in
theorem c_X2_goBack_54 (hi hl C N : HI) (B f fl : Nat → Int) (hT : TB (hi 2) (hi 3)) (s h so : Nat) (hs : s ≤ 6) (hh : h ≤ 5) (hne : s ≠ h) (hso : so ≤ 4) (hsr : hi 11 h = (so : Nat)) (hbd : ∀ t, t ≤ 6 → ∀ j, j < 364 → 0 ≤ C t j ∧ C t j ≤ 1000) (b : Bool) (hB : B h = b2i b) (Q : QT) (hqF : b = false → Q none KW (upR (upR (blk hi 56 C) 71 B) 54 f) (upR (blk hl 64 N) 54 fl)) (hqT : b = true → ∀ g m g2 m2 f' fl' : Nat → Int, (∀ v, v < 364 → g v = gbC (C h) (N h) (C s) so v ∧ m v = gbN (C h) (N h) (N s) so v) → (∀ v, v < 364 → g2 v = 0 ∧ m2 v = 1) → Q none KW (upR (upR (blk hi 56 (upR (upR C s g) h g2)) 71 (updF (updF B s 1) h 0)) 54 f') (upR (blk hl 64 (upR (upR N s m) h m2)) 54 fl')) : Con eX2_goBack [vR 54, vI (s : Nat), vI (h : Nat), vR 11, vR 1] KW (upR (upR (blk hi 56 C) 71 B) 54 f) (upR (blk hl 64 N) 54 fl) Q := by
  refine Con.ofV (by decide +kernel) (Nat.le_of_ble_eq_true rfl) ?_
  show V eX2_goBack none KW 0 [(0, vR 54), (1, vI ((s : Nat) : Int)), (2, vI ((h : Nat) : Int)), (3, vR 11), (4, vR 1)] [] (upR (upR (blk hi 56 C) 71 B) 54 f) (upR (blk hl 64 N) 54 fl) 0 0 Q
  refine V.hieq (hi' := (upR (upR (blk hi 56 (upR C s (C s))) 71 B) 54 f)) (by rw [upR_id]) ?_
  refine V.hleq (hl' := (upR (blk hl 64 (upR N s (N s))) 54 fl)) (by rw [upR_id]) ?_
  refine V.iload_n (pc := 0) 1 dX2_goBack_0 rfl ?_
  refine V.if_lt (pc := 1) 26 dX2_goBack_1 (by decide) (fun hc => by exfalso; omega) (fun h1 => ?_)
  refine V.iload_n (pc := 4) 1 dX2_goBack_4 rfl ?_
  refine V.bipush (pc := 5) (z := 6) dX2_goBack_5 (by decide +kernel) ⟨by decide, by decide⟩ ?_
  refine V.icmp_gt (pc := 7) 26 dX2_goBack_7 (by decide) (fun hc => by exfalso; omega) (fun h7 => ?_)
  refine V.iload_n (pc := 10) 2 dX2_goBack_10 rfl ?_
  refine V.callS (pc := 11) (e1 := eX7_isBird) 1 [vI ((h : Nat) : Int)] [] mfX7_isBird slX7_isBird mlX2_101 dX2_goBack_11 rfl rfl (Nat.le_of_ble_eq_true rfl) ⟨by decide, by decide, by decide, by decide⟩ ?_
  refine c_X7_isBird KW (upR (upR (blk hi 56 (upR C s (C s))) 71 B) 54 f) (upR (blk hl 64 (upR N s (N s))) 54 fl) ((h : Nat) : Int) _ (fun hb => ?_) (fun hb => absurd hb (by omega))
  · skip
    refine V.qI (pc := 11) rfl rfl ?_
    refine V.if_eq (pc := 14) 26 dX2_goBack_14 (by decide) (fun hc => by exact absurd hc (by decide)) (fun h14 => ?_)
    refine V.aload_n (pc := 17) 0 dX2_goBack_17 rfl ?_
    refine V.gr (pc := 18) 2 2 71 flX2_21 dX2_goBack_18 (kS_54) (by decide) (by decide) rfl (kR_54_2) ?_
    refine V.iload_n (pc := 21) 2 dX2_goBack_21 rfl ?_
    refine V.za (pc := 22) (len := 7) h (b2i b) dX2_goBack_22 (kS_71) (rfl) (by omega) (hB) ?_
    refine V.if_ne (pc := 23) 27 dX2_goBack_23 (by decide) (fun h23 => ?_) (fun h23 => ?_)
    · have hbt : b = true := b2i_T h23
      refine V.iconst (pc := 27) (z := 0) dX2_goBack_27 rfl ⟨by decide, by decide⟩ ?_
      refine V.istore (pc := 28) (i := 5) dX2_goBack_28 (by decide) (ls' := [(5, vI 0), (0, vR 54), (1, vI ((s : Nat) : Int)), (2, vI ((h : Nat) : Int)), (3, vR 11), (4, vR 1)]) rfl ?_
      have lp30 : ∀ (fu30 : Nat) (k : Nat) (g : Nat → Int) (m : Nat → Int) (f1 : Nat → Int) (fl1 : Nat → Int), (k ≤ 364) → (∀ j, j < k → g j = (gbC (C h) (N h) (C s) so j) ∧ m j = (gbN (C h) (N h) (N s) so j)) → (∀ j, k ≤ j → g j = C s j ∧ m j = N s j) → 364 - k < fu30 → V eX2_goBack none KW 30 [(0, vR 54), (1, vI ((s : Nat) : Int)), (2, vI ((h : Nat) : Int)), (3, vR 11), (4, vR 1), (5, vI ((k : Nat) : Int))] [] (upR (upR (blk hi 56 (upR C s g)) 71 B) 54 f1) (upR (blk hl 64 (upR N s m)) 54 fl1) 0 0 Q := by
        intro fu30
        induction fu30 with
        | zero => intro k g m f1 fl1 hk h3 h4 hm30; exact absurd hm30 (Nat.not_lt_zero _)
        | succ fu30 ih30 =>
          intro k g m f1 fl1 hk h3 h4 hm30
          refine V.iload (pc := 30) 5 dX2_goBack_30 rfl ?_
          refine V.sipush (pc := 32) (z := 364) dX2_goBack_32 (by decide +kernel) ⟨by decide, by decide⟩ ?_
          refine V.icmp_ge (pc := 35) 101 dX2_goBack_35 (by decide) (fun h35 => ?_) (fun h35 => ?_)
          · skip
            refine V.aload_n (pc := 101) 0 dX2_goBack_101 rfl ?_
            refine V.gr (pc := 102) 2 2 71 flX2_21 dX2_goBack_102 (kS_54) (by decide) (by decide) rfl (kR_54_2) ?_
            refine V.iload_n (pc := 105) 1 dX2_goBack_105 rfl ?_
            refine V.iconst (pc := 106) (z := 1) dX2_goBack_106 rfl ⟨by decide, by decide⟩ ?_
            refine V.zs (pc := 107) (len := 7) (hi' := (upR (upR (blk hi 56 (upR C s g)) 71 (updF B s 1)) 54 f1)) s dX2_goBack_107 (kS_71) (rfl) (by omega) (Or.inr rfl) (us (by decide) u1) ?_
            refine V.aload_n (pc := 108) 0 dX2_goBack_108 rfl ?_
            refine V.iload_n (pc := 109) 2 dX2_goBack_109 rfl ?_
            refine V.callV (pc := 110) (e1 := eX2_free) (o := 54) (c := 2) 1 [vI ((h : Nat) : Int)] [] mfX2_free slX2_free mlX2_45 dX2_goBack_110 (kS_54) (by decide) rfl rfl rfl (Nat.le_of_ble_eq_true rfl) ⟨by decide, by decide, by decide, by decide⟩ ?_
            refine c_X2_free_54 hi hl (upR C s g) (upR N s m) (updF B s 1) f1 fl1 h (by omega) _ (fun g2 m2 hf2 => ?_)
            refine V.qV (pc := 110) rfl rfl ?_
            refine V.vret (pc := 113) dX2_goBack_113 rfl ?_
            exact hqT hbt _ _ _ _ _ _ (fun j hj => h3 j (by omega)) hf2
          · skip
            refine V.aload_n (pc := 38) 0 dX2_goBack_38 rfl ?_
            refine V.iload_n (pc := 39) 2 dX2_goBack_39 rfl ?_
            refine V.aload_n (pc := 40) 3 dX2_goBack_40 rfl ?_
            refine V.iload_n (pc := 41) 2 dX2_goBack_41 rfl ?_
            refine V.ia (pc := 42) (len := 6) h ((so : Nat) : Int) dX2_goBack_42 (kS_11) (rfl) (by omega) (hsr) ?_
            refine V.iload (pc := 43) 5 dX2_goBack_43 rfl ?_
            refine V.aload (pc := 45) 4 dX2_goBack_45 rfl ?_
            refine V.callV (pc := 47) (e1 := eX2_weigh) (o := 54) (c := 2) 4 [vI ((h : Nat) : Int), vI ((so : Nat) : Int), vI ((k : Nat) : Int), vR 1] [] mfX2_weigh slX2_weigh mlX2_105 dX2_goBack_47 (kS_54) (by decide) rfl rfl rfl (Nat.le_of_ble_eq_true rfl) ⟨by decide, by decide, by decide, by decide⟩ ?_
            refine c_X2_weigh_54 hi hl (upR C s g) (upR N s m) B f1 fl1 hT h so k (by omega) (by omega) (by omega) (by rw [upR_n (Ne.symm hne)]; exact hbd h (by omega)) _ (fun f2 fl2 hw1 hw2 => ?_)
            refine V.qV (pc := 47) rfl rfl ?_
            rw [upR_n (Ne.symm hne), upR_n (Ne.symm hne)] at hw1 hw2
            have hwb := wg_b (n := N h) hso (show k < 364 by omega) (hbd h (by omega))
            have hcs := hbd s hs k (by omega)
            have h4k := h4 k (Nat.le_refl k)
            refine V.aload_n (pc := 50) 0 dX2_goBack_50 rfl ?_
            refine V.gr (pc := 51) 2 0 55 flX2_11 dX2_goBack_51 (kS_54) (by decide) (by decide) rfl (kR_54_0) ?_
            refine V.iload_n (pc := 54) 1 dX2_goBack_54 rfl ?_
            refine V.aald (pc := 55) (o' := ((56 + s))) (len := 7) (t := 1) s dX2_goBack_55 (kS_55) (by decide) (kD_55 (by omega)) (rfl) (by omega) ?_
            refine V.iload (pc := 56) 5 dX2_goBack_56 rfl ?_
            refine V.sipush (pc := 58) (z := 1000) dX2_goBack_58 (by decide +kernel) ⟨by decide, by decide⟩ ?_
            refine V.aload_n (pc := 61) 0 dX2_goBack_61 rfl ?_
            refine V.gr (pc := 62) 2 0 55 flX2_11 dX2_goBack_62 (kS_54) (by decide) (by decide) rfl (kR_54_0) ?_
            refine V.iload_n (pc := 65) 1 dX2_goBack_65 rfl ?_
            refine V.aald (pc := 66) (o' := ((56 + s))) (len := 7) (t := 1) s dX2_goBack_66 (kS_55) (by decide) (kD_55 (by omega)) (rfl) (by omega) ?_
            refine V.iload (pc := 67) 5 dX2_goBack_67 rfl ?_
            refine V.ia (pc := 69) (len := 364) k (C s k) dX2_goBack_69 (kE_56 (by omega)) (rfl) (by omega) (by rw [upR_n (by omega), upR_n (by omega), blk_in (by omega), upR_s]; exact h4k.1) ?_
            refine V.aload_n (pc := 70) 0 dX2_goBack_70 rfl ?_
            refine V.gi (pc := 71) 2 3 ((wg (C h) (N h) so k).1) flX2_25 dX2_goBack_71 (kS_54) (by decide) (by decide) rfl (hw1) ?_
            refine V.iadd (pc := 74) (((C s k) + ((wg (C h) (N h) so k).1))) dX2_goBack_74 (w32_of (by omega) (by omega) (by omega)) ?_
            refine V.mmin (pc := 75) ((gbC (C h) (N h) (C s) so k)) mmX2_68 mm_st mm_in mm_cd dX2_goBack_75 (by decide) (Nat.le_of_ble_eq_true rfl) (rfl) ?_
            refine V.is (pc := 78) (len := 364) (hi' := (upR (upR (blk hi 56 (upR C s (updF g k (gbC (C h) (N h) (C s) so k)))) 71 B) 54 f2)) k dX2_goBack_78 (kE_56 (by omega)) (rfl) (by omega) (us (by omega) (us (by omega) (ublk (by omega) u1))) ?_
            refine V.aload_n (pc := 79) 0 dX2_goBack_79 rfl ?_
            refine V.gr (pc := 80) 2 1 63 flX2_18 dX2_goBack_80 (kS_54) (by decide) (by decide) rfl (kR_54_1) ?_
            refine V.iload_n (pc := 83) 1 dX2_goBack_83 rfl ?_
            refine V.aald (pc := 84) (o' := ((64 + s))) (len := 7) (t := 2) s dX2_goBack_84 (kS_63) (by decide) (kD_63 (by omega)) (rfl) (by omega) ?_
            refine V.iload (pc := 85) 5 dX2_goBack_85 rfl ?_
            refine V.dup2 (pc := 87) dX2_goBack_87 rfl rfl ?_
            refine V.la (pc := 88) (len := 364) k (N s k) dX2_goBack_88 (kE_64 (by omega)) (rfl) (by omega) (by rw [upR_n (by omega), blk_in (by omega), upR_s]; exact h4k.2) ?_
            refine V.aload_n (pc := 89) 0 dX2_goBack_89 rfl ?_
            refine V.gj (pc := 90) 2 4 ((wg (C h) (N h) so k).2) flX2_29 dX2_goBack_90 (kS_54) (by decide) (by decide) rfl (hw2) ?_
            refine V.lmul (pc := 93) ((gbN (C h) (N h) (N s) so k)) dX2_goBack_93 rfl ?_
            refine V.js (pc := 94) (len := 364) (hl' := (upR (blk hl 64 (upR N s (updF m k (gbN (C h) (N h) (N s) so k)))) 54 fl2)) k dX2_goBack_94 (kE_64 (by omega)) (rfl) (by omega) (us (by omega) (ublk (by omega) u1)) ?_
            refine V.iinc (pc := 95) (r := ((k + 1 : Nat) : Int)) 5 dX2_goBack_95 rfl (w32_of (by omega) (by omega) (by omega)) (by decide) (ls' := [(5, vI ((k + 1 : Nat) : Int)), (0, vR 54), (1, vI ((s : Nat) : Int)), (2, vI ((h : Nat) : Int)), (3, vR 11), (4, vR 1)]) rfl ?_
            refine V.goto (pc := 98) 30 dX2_goBack_98 (by decide) ?_
            refine V.locs [1, 2, 3, 4, 5, 0] (ls' := [(0, vR 54), (1, vI ((s : Nat) : Int)), (2, vI ((h : Nat) : Int)), (3, vR 11), (4, vR 1), (5, vI ((k + 1 : Nat) : Int))]) rfl ?_
            exact ih30 (k + 1) (updF g k (gbC (C h) (N h) (C s) so k)) (updF m k (gbN (C h) (N h) (N s) so k)) f2 fl2 (by omega) (fun j hj => by by_cases e : j = k; { subst e; rw [updF_s, updF_s]; exact ⟨rfl, rfl⟩ }; { rw [updF_n e, updF_n e]; exact h3 j (by omega) }) (fun j hj => by rw [updF_n (by omega), updF_n (by omega)]; exact h4 j (by omega)) (by omega)
      refine V.locs [1, 2, 3, 4, 5, 0] (ls' := [(0, vR 54), (1, vI ((s : Nat) : Int)), (2, vI ((h : Nat) : Int)), (3, vR 11), (4, vR 1), (5, vI 0)]) rfl ?_
      exact lp30 _ 0 (C s) (N s) f fl (by omega) (fun j hj => absurd hj (Nat.not_lt_zero j)) (fun j hj => ⟨rfl, rfl⟩) (Nat.lt_succ_self _)
    · have hbf : b = false := b2i_F (by omega)
      refine V.vret (pc := 26) dX2_goBack_26 rfl ?_
      rw [upR_id, upR_id]
      exact hqF hbf

set_option maxRecDepth 100000 in
theorem c_X2_someBirdIsBound_54 (hi hl C N : HI) (B f fl : Nat → Int) (b : Nat → Bool) (hB : ∀ s, s ≤ 6 → B s = b2i (b s)) (Q : QT) (hq : Q (some (vI (b2i (anyB b 6)))) KW (upR (upR (blk hi 56 C) 71 B) 54 f) (upR (blk hl 64 N) 54 fl)) : Con eX2_someBirdIsBound [vR 54] KW (upR (upR (blk hi 56 C) 71 B) 54 f) (upR (blk hl 64 N) 54 fl) Q := by
  refine Con.ofV (by decide +kernel) (Nat.le_of_ble_eq_true rfl) ?_
  show V eX2_someBirdIsBound none KW 0 [(0, vR 54)] [] (upR (upR (blk hi 56 C) 71 B) 54 f) (upR (blk hl 64 N) 54 fl) 0 0 Q
  refine V.iconst (pc := 0) (z := 0) dX2_someBirdIsBound_0 rfl ⟨by decide, by decide⟩ ?_
  refine V.istore_n (pc := 1) (i := 1) dX2_someBirdIsBound_1 rfl (by decide) (ls' := [(1, vI 0), (0, vR 54)]) rfl ?_
  have lp2 : ∀ (fu2 : Nat) (k : Nat), (k ≤ 6) → (∀ j, j < k → b j = false) → 6 - k < fu2 → V eX2_someBirdIsBound none KW 2 [(0, vR 54), (1, vI ((k : Nat) : Int))] [] (upR (upR (blk hi 56 C) 71 B) 54 f) (upR (blk hl 64 N) 54 fl) 0 0 Q := by
    intro fu2
    induction fu2 with
    | zero => intro k hk h3 hm2; exact absurd hm2 (Nat.not_lt_zero _)
    | succ fu2 ih2 =>
      intro k hk h3 hm2
      refine V.iload_n (pc := 2) 1 dX2_someBirdIsBound_2 rfl ?_
      refine V.bipush (pc := 3) (z := 6) dX2_someBirdIsBound_3 (by decide +kernel) ⟨by decide, by decide⟩ ?_
      refine V.icmp_ge (pc := 5) 25 dX2_someBirdIsBound_5 (by decide) (fun h5 => ?_) (fun h5 => ?_)
      · skip
        refine V.iconst (pc := 25) (z := 0) dX2_someBirdIsBound_25 rfl ⟨by decide, by decide⟩ ?_
        refine V.zret (pc := 26) (z := 0) dX2_someBirdIsBound_26 rfl (Or.inl rfl) ?_
        rw [anyB_f (fun j (hj : j < 6) => h3 j (by omega))] at hq
        exact hq
      · skip
        refine V.aload_n (pc := 8) 0 dX2_someBirdIsBound_8 rfl ?_
        refine V.gr (pc := 9) 2 2 71 flX2_21 dX2_someBirdIsBound_9 (kS_54) (by decide) (by decide) rfl (kR_54_2) ?_
        refine V.iload_n (pc := 12) 1 dX2_someBirdIsBound_12 rfl ?_
        refine V.za (pc := 13) (len := 7) k (b2i (b k)) dX2_someBirdIsBound_13 (kS_71) (rfl) (by omega) (hB k (by omega)) ?_
        refine V.if_eq (pc := 14) 19 dX2_someBirdIsBound_14 (by decide) (fun h14 => ?_) (fun h14 => ?_)
        · skip
          refine V.iinc (pc := 19) (r := ((k + 1 : Nat) : Int)) 1 dX2_someBirdIsBound_19 rfl (w32_of (by omega) (by omega) (by omega)) (by decide) (ls' := [(1, vI ((k + 1 : Nat) : Int)), (0, vR 54)]) rfl ?_
          refine V.goto (pc := 22) 2 dX2_someBirdIsBound_22 (by decide) ?_
          refine V.locs [1, 0] (ls' := [(0, vR 54), (1, vI ((k + 1 : Nat) : Int))]) rfl ?_
          exact ih2 (k + 1) (by omega) (fun j hj => by by_cases e : j = k; { rw [e]; exact b2i_F h14 }; { exact h3 j (by omega) }) (by omega)
        · skip
          refine V.iconst (pc := 17) (z := 1) dX2_someBirdIsBound_17 rfl ⟨by decide, by decide⟩ ?_
          refine V.zret (pc := 18) (z := 1) dX2_someBirdIsBound_18 rfl (Or.inr rfl) ?_
          rw [anyB_t (show k < 6 by omega) (b2i_T h14)] at hq
          exact hq
  refine V.locs [1, 0] (ls' := [(0, vR 54), (1, vI 0)]) rfl ?_
  exact lp2 _ 0 (by omega) (fun j hj => absurd hj (Nat.not_lt_zero j)) (Nat.lt_succ_self _)

set_option maxRecDepth 100000 in
theorem c_X2_sumUp_54 (hi hl C N : HI) (B f fl : Nat → Int) (hb : ∀ j, j < 364 → 0 ≤ C 6 j ∧ C 6 j ≤ 1000) (Q : QT) (hq : ∀ f' fl' : Nat → Int, f' 5 = mnF (C 6) 364 → f' 6 = (tlA (C 6) (N 6) (f 7)).1 → f' 7 = (tlA (C 6) (N 6) (f 7)).2.1 → fl' 8 = (tlA (C 6) (N 6) (f 7)).2.2 → Q none KW (upR (upR (blk hi 56 C) 71 B) 54 f') (upR (blk hl 64 N) 54 fl')) : Con eX2_sumUp [vR 54] KW (upR (upR (blk hi 56 C) 71 B) 54 f) (upR (blk hl 64 N) 54 fl) Q := by
  refine Con.ofV (by decide +kernel) (Nat.le_of_ble_eq_true rfl) ?_
  show V eX2_sumUp none KW 0 [(0, vR 54)] [] (upR (upR (blk hi 56 C) 71 B) 54 f) (upR (blk hl 64 N) 54 fl) 0 0 Q
  refine V.aload_n (pc := 0) 0 dX2_sumUp_0 rfl ?_
  refine V.sipush (pc := 1) (z := 1000) dX2_sumUp_1 (by decide +kernel) ⟨by decide, by decide⟩ ?_
  refine V.pi (pc := 4) (hi' := (upR (upR (blk hi 56 C) 71 B) 54 (updF f 5 1000))) 2 5 flX2_33 dX2_sumUp_4 (kS_54) (by decide) (by decide) rfl rfl u1 ?_
  refine V.iconst (pc := 7) (z := 0) dX2_sumUp_7 rfl ⟨by decide, by decide⟩ ?_
  refine V.istore_n (pc := 8) (i := 1) dX2_sumUp_8 rfl (by decide) (ls' := [(1, vI 0), (0, vR 54)]) rfl ?_
  have lp9 : ∀ (fu9 : Nat) (k : Nat) (f1 : Nat → Int), (k ≤ 364) → (f1 5 = mnF (C 6) k) → (f1 7 = f 7) → 364 - k < fu9 → V eX2_sumUp none KW 9 [(0, vR 54), (1, vI ((k : Nat) : Int))] [] (upR (upR (blk hi 56 C) 71 B) 54 f1) (upR (blk hl 64 N) 54 fl) 0 0 Q := by
    intro fu9
    induction fu9 with
    | zero => intro k f1 hk h5 h7 hm9; exact absurd hm9 (Nat.not_lt_zero _)
    | succ fu9 ih9 =>
      intro k f1 hk h5 h7 hm9
      refine V.iload_n (pc := 9) 1 dX2_sumUp_9 rfl ?_
      refine V.sipush (pc := 10) (z := 364) dX2_sumUp_10 (by decide +kernel) ⟨by decide, by decide⟩ ?_
      refine V.icmp_ge (pc := 13) 42 dX2_sumUp_13 (by decide) (fun h13 => ?_) (fun h13 => ?_)
      · skip
        refine V.aload_n (pc := 42) 0 dX2_sumUp_42 rfl ?_
        refine V.iconst (pc := 43) (z := 0) dX2_sumUp_43 rfl ⟨by decide, by decide⟩ ?_
        refine V.pi (pc := 44) (hi' := (upR (upR (blk hi 56 C) 71 B) 54 (updF f1 6 0))) 2 6 flX2_36 dX2_sumUp_44 (kS_54) (by decide) (by decide) rfl rfl u1 ?_
        refine V.aload_n (pc := 47) 0 dX2_sumUp_47 rfl ?_
        refine V.lconst (pc := 48) (z := 0) dX2_sumUp_48 (by decide +kernel) ⟨by decide, by decide⟩ ?_
        refine V.pj (pc := 49) (hl' := (upR (blk hl 64 N) 54 (updF fl 8 0))) 2 8 flX2_42 dX2_sumUp_49 (kS_54) (by decide) (by decide) rfl rfl u1 ?_
        refine V.sipush (pc := 52) (z := 363) dX2_sumUp_52 (by decide +kernel) ⟨by decide, by decide⟩ ?_
        refine V.istore_n (pc := 55) (i := 1) dX2_sumUp_55 rfl (by decide) (ls' := [(1, vI 363), (0, vR 54)]) rfl ?_
        have lp56 : ∀ (fu56 : Nat) (i : Nat) (f2 : Nat → Int) (fl2 : Nat → Int), (i ≤ 364) → (f2 5 = mnF (C 6) 364) → (f2 6 = (tlF (C 6) (N 6) (mnF (C 6) 364) (f 7) i).1) → (f2 7 = (tlF (C 6) (N 6) (mnF (C 6) 364) (f 7) i).2.1) → (fl2 8 = (tlF (C 6) (N 6) (mnF (C 6) 364) (f 7) i).2.2) → (i = 0 ∨ mnF (C 6) 364 < 1000) → 364 - i < fu56 → V eX2_sumUp none KW 56 [(0, vR 54), (1, vI (363 - (i : Int)))] [] (upR (upR (blk hi 56 C) 71 B) 54 f2) (upR (blk hl 64 N) 54 fl2) 0 0 Q := by
          intro fu56
          induction fu56 with
          | zero => intro i f2 fl2 hin g5 g6 g7 g8 g9 hm56; exact absurd hm56 (Nat.not_lt_zero _)
          | succ fu56 ih56 =>
            intro i f2 fl2 hin g5 g6 g7 g8 g9 hm56
            have htb := tlF_b (C 6) (N 6) (mnF (C 6) 364) (f 7) i
            refine V.iload_n (pc := 56) 1 dX2_sumUp_56 rfl ?_
            refine V.if_lt (pc := 57) 128 dX2_sumUp_57 (by decide) (fun h57 => ?_) (fun h57 => ?_)
            · skip
              refine V.vret (pc := 128) dX2_sumUp_128 rfl ?_
              have hA : tlA (C 6) (N 6) (f 7) = tlF (C 6) (N 6) (mnF (C 6) 364) (f 7) i := by
                unfold tlA
                by_cases e : i = 364
                · subst e; rw [if_pos (by omega)]
                · have e0 : i = 0 := by omega
                  subst e0; rw [if_neg (by omega)]; rfl
              exact hq _ _ g5 (by rw [hA]; exact g6) (by rw [hA]; exact g7) (by rw [hA]; exact g8)
            · skip
              refine V.aload_n (pc := 60) 0 dX2_sumUp_60 rfl ?_
              refine V.gi (pc := 61) 2 5 (mnF (C 6) 364) flX2_33 dX2_sumUp_61 (kS_54) (by decide) (by decide) rfl (g5) ?_
              refine V.sipush (pc := 64) (z := 1000) dX2_sumUp_64 (by decide +kernel) ⟨by decide, by decide⟩ ?_
              refine V.icmp_ge (pc := 67) 128 dX2_sumUp_67 (by decide) (fun h67 => ?_) (fun h67 => ?_)
              · skip
                refine V.vret (pc := 128) dX2_sumUp_128 rfl ?_
                have hA : tlA (C 6) (N 6) (f 7) = tlF (C 6) (N 6) (mnF (C 6) 364) (f 7) i := by
                  unfold tlA
                  by_cases e : i = 364
                  · subst e; rw [if_pos (by omega)]
                  · have e0 : i = 0 := by omega
                    subst e0; rw [if_neg (by omega)]; rfl
                exact hq _ _ g5 (by rw [hA]; exact g6) (by rw [hA]; exact g7) (by rw [hA]; exact g8)
              · skip
                refine V.aload_n (pc := 70) 0 dX2_sumUp_70 rfl ?_
                refine V.gr (pc := 71) 2 0 55 flX2_11 dX2_sumUp_71 (kS_54) (by decide) (by decide) rfl (kR_54_0) ?_
                refine V.bipush (pc := 74) (z := 6) dX2_sumUp_74 (by decide +kernel) ⟨by decide, by decide⟩ ?_
                refine V.aald (pc := 76) (o' := 62) (len := 7) (t := 1) 6 dX2_sumUp_76 (kS_55) (by decide) (kR_55_6) (rfl) (by decide) ?_
                refine V.iload_n (pc := 77) 1 dX2_sumUp_77 rfl ?_
                refine V.ia (pc := 78) (len := 364) (363 - i) ((C 6) (363 - i)) dX2_sumUp_78 (kS_62) (by omega) (by omega) (rfl) ?_
                refine V.aload_n (pc := 79) 0 dX2_sumUp_79 rfl ?_
                refine V.gi (pc := 80) 2 5 (mnF (C 6) 364) flX2_33 dX2_sumUp_80 (kS_54) (by decide) (by decide) rfl (g5) ?_
                refine V.icmp_eq (pc := 83) 89 dX2_sumUp_83 (by decide) (fun h83 => ?_) (fun h83 => ?_)
                · have heq : C 6 (363 - i) = mnF (C 6) 364 := by omega
                  refine V.aload_n (pc := 89) 0 dX2_sumUp_89 rfl ?_
                  refine V.dup (pc := 90) dX2_sumUp_90 rfl ?_
                  refine V.gi (pc := 91) 2 6 ((tlF (C 6) (N 6) (mnF (C 6) 364) (f 7) i).1) flX2_36 dX2_sumUp_91 (kS_54) (by decide) (by decide) rfl (g6) ?_
                  refine V.iconst (pc := 94) (z := 1) dX2_sumUp_94 rfl ⟨by decide, by decide⟩ ?_
                  refine V.iadd (pc := 95) (((tlF (C 6) (N 6) (mnF (C 6) 364) (f 7) i).1 + 1)) dX2_sumUp_95 (w32_of (by omega) (by omega) (by omega)) ?_
                  refine V.pi (pc := 96) (hi' := (upR (upR (blk hi 56 C) 71 B) 54 (updF f2 6 ((tlF (C 6) (N 6) (mnF (C 6) 364) (f 7) i).1 + 1)))) 2 6 flX2_36 dX2_sumUp_96 (kS_54) (by decide) (by decide) rfl rfl u1 ?_
                  refine V.aload_n (pc := 99) 0 dX2_sumUp_99 rfl ?_
                  refine V.iload_n (pc := 100) 1 dX2_sumUp_100 rfl ?_
                  refine V.pi (pc := 101) (hi' := (upR (upR (blk hi 56 C) 71 B) 54 (updF (updF f2 6 ((tlF (C 6) (N 6) (mnF (C 6) 364) (f 7) i).1 + 1)) 7 (363 - (i : Int))))) 2 7 flX2_39 dX2_sumUp_101 (kS_54) (by decide) (by decide) rfl rfl u1 ?_
                  refine V.aload_n (pc := 104) 0 dX2_sumUp_104 rfl ?_
                  refine V.dup (pc := 105) dX2_sumUp_105 rfl ?_
                  refine V.gj (pc := 106) 2 8 ((tlF (C 6) (N 6) (mnF (C 6) 364) (f 7) i).2.2) flX2_42 dX2_sumUp_106 (kS_54) (by decide) (by decide) rfl (g8) ?_
                  refine V.aload_n (pc := 109) 0 dX2_sumUp_109 rfl ?_
                  refine V.gr (pc := 110) 2 1 63 flX2_18 dX2_sumUp_110 (kS_54) (by decide) (by decide) rfl (kR_54_1) ?_
                  refine V.bipush (pc := 113) (z := 6) dX2_sumUp_113 (by decide +kernel) ⟨by decide, by decide⟩ ?_
                  refine V.aald (pc := 115) (o' := 70) (len := 7) (t := 2) 6 dX2_sumUp_115 (kS_63) (by decide) (kR_63_6) (rfl) (by decide) ?_
                  refine V.iload_n (pc := 116) 1 dX2_sumUp_116 rfl ?_
                  refine V.la (pc := 117) (len := 364) (363 - i) ((N 6) (363 - i)) dX2_sumUp_117 (kS_70) (by omega) (by omega) (rfl) ?_
                  refine V.ladd (pc := 118) ((w64 ((tlF (C 6) (N 6) (mnF (C 6) 364) (f 7) i).2.2 + N 6 (363 - i)))) dX2_sumUp_118 rfl ?_
                  refine V.pj (pc := 119) (hl' := (upR (blk hl 64 N) 54 (updF fl2 8 (w64 ((tlF (C 6) (N 6) (mnF (C 6) 364) (f 7) i).2.2 + N 6 (363 - i)))))) 2 8 flX2_42 dX2_sumUp_119 (kS_54) (by decide) (by decide) rfl rfl u1 ?_
                  refine V.iinc (pc := 122) (r := (363 - ((i + 1 : Nat) : Int))) 1 dX2_sumUp_122 rfl (w32_of (by omega) (by omega) (by omega)) (by decide) (ls' := [(1, vI (363 - ((i + 1 : Nat) : Int))), (0, vR 54)]) rfl ?_
                  refine V.goto (pc := 125) 56 dX2_sumUp_125 (by decide) ?_
                  refine V.locs [1, 0] (ls' := [(0, vR 54), (1, vI (363 - ((i + 1 : Nat) : Int)))]) rfl ?_
                  exact ih56 (i + 1) (updF (updF f2 6 ((tlF (C 6) (N 6) (mnF (C 6) 364) (f 7) i).1 + 1)) 7 (363 - (i : Int))) (updF fl2 8 (w64 ((tlF (C 6) (N 6) (mnF (C 6) 364) (f 7) i).2.2 + N 6 (363 - i)))) (by omega) (by rw [updF_n (by decide), updF_n (by decide)]; exact g5) (by rw [tlF_s, if_pos heq, updF_n (by decide), updF_s]) (by rw [tlF_s, if_pos heq, updF_s]; show (363 - (i : Int)) = ((363 - i : Nat) : Int); omega) (by rw [tlF_s, if_pos heq, updF_s]) (Or.inr (by omega)) (by omega)
                · have heq : ¬ C 6 (363 - i) = mnF (C 6) 364 := by omega
                  refine V.goto (pc := 86) 122 dX2_sumUp_86 (by decide) ?_
                  refine V.iinc (pc := 122) (r := (363 - ((i + 1 : Nat) : Int))) 1 dX2_sumUp_122 rfl (w32_of (by omega) (by omega) (by omega)) (by decide) (ls' := [(1, vI (363 - ((i + 1 : Nat) : Int))), (0, vR 54)]) rfl ?_
                  refine V.goto (pc := 125) 56 dX2_sumUp_125 (by decide) ?_
                  refine V.locs [1, 0] (ls' := [(0, vR 54), (1, vI (363 - ((i + 1 : Nat) : Int)))]) rfl ?_
                  exact ih56 (i + 1) f2 fl2 (by omega) (g5) (by rw [tlF_s, if_neg heq]; exact g6) (by rw [tlF_s, if_neg heq]; exact g7) (by rw [tlF_s, if_neg heq]; exact g8) (Or.inr (by omega)) (by omega)
        refine V.locs [1, 0] (ls' := [(0, vR 54), (1, vI 363)]) rfl ?_
        exact lp56 _ 0 (updF f1 6 0) (updF fl 8 0) (by omega) (by rw [updF_n (by decide)]; have e : k = 364 := (by omega); subst e; exact h5) (updF_s) (by rw [updF_n (by decide)]; exact h7) (updF_s) (Or.inl rfl) (Nat.lt_succ_self _)
      · skip
        refine V.aload_n (pc := 16) 0 dX2_sumUp_16 rfl ?_
        refine V.aload_n (pc := 17) 0 dX2_sumUp_17 rfl ?_
        refine V.gi (pc := 18) 2 5 (mnF (C 6) k) flX2_33 dX2_sumUp_18 (kS_54) (by decide) (by decide) rfl (h5) ?_
        refine V.aload_n (pc := 21) 0 dX2_sumUp_21 rfl ?_
        refine V.gr (pc := 22) 2 0 55 flX2_11 dX2_sumUp_22 (kS_54) (by decide) (by decide) rfl (kR_54_0) ?_
        refine V.bipush (pc := 25) (z := 6) dX2_sumUp_25 (by decide +kernel) ⟨by decide, by decide⟩ ?_
        refine V.aald (pc := 27) (o' := 62) (len := 7) (t := 1) 6 dX2_sumUp_27 (kS_55) (by decide) (kR_55_6) (rfl) (by decide) ?_
        refine V.iload_n (pc := 28) 1 dX2_sumUp_28 rfl ?_
        refine V.ia (pc := 29) (len := 364) k ((C 6) k) dX2_sumUp_29 (kS_62) (rfl) (by omega) (rfl) ?_
        refine V.mmin (pc := 30) ((mnF (C 6) (k + 1))) mmX2_68 mm_st mm_in mm_cd dX2_sumUp_30 (by decide) (Nat.le_of_ble_eq_true rfl) (rfl) ?_
        refine V.pi (pc := 33) (hi' := (upR (upR (blk hi 56 C) 71 B) 54 (updF f1 5 (mnF (C 6) (k + 1))))) 2 5 flX2_33 dX2_sumUp_33 (kS_54) (by decide) (by decide) rfl rfl u1 ?_
        refine V.iinc (pc := 36) (r := ((k + 1 : Nat) : Int)) 1 dX2_sumUp_36 rfl (w32_of (by omega) (by omega) (by omega)) (by decide) (ls' := [(1, vI ((k + 1 : Nat) : Int)), (0, vR 54)]) rfl ?_
        refine V.goto (pc := 39) 9 dX2_sumUp_39 (by decide) ?_
        refine V.locs [1, 0] (ls' := [(0, vR 54), (1, vI ((k + 1 : Nat) : Int))]) rfl ?_
        exact ih9 (k + 1) (updF f1 5 (mnF (C 6) (k + 1))) (by omega) (by rw [updF_s]) (by rw [updF_n (by decide)]; exact h7) (by omega)
  refine V.locs [1, 0] (ls' := [(0, vR 54), (1, vI 0)]) rfl ?_
  exact lp9 _ 0 (updF f 5 1000) (by omega) (updF_s) (updF_n (by decide)) (Nat.lt_succ_self _)

set_option maxRecDepth 100000 in
theorem c_X2_costOf_54 (hi hl : HI) (v : Nat) (hv : v < 364) (Q : QT) (hq : Q (some (vI (hi 62 v))) KW hi hl) : Con eX2_costOf [vR 54, vI (v : Nat)] KW hi hl Q := by
  refine Con.ofV (by decide +kernel) (Nat.le_of_ble_eq_true rfl) ?_
  show V eX2_costOf none KW 0 [(0, vR 54), (1, vI ((v : Nat) : Int))] [] hi hl 0 0 Q
  refine V.iload_n (pc := 0) 1 dX2_costOf_0 rfl ?_
  refine V.if_lt (pc := 1) 23 dX2_costOf_1 (by decide) (fun hc => by exfalso; omega) (fun h1 => ?_)
  refine V.iload_n (pc := 4) 1 dX2_costOf_4 rfl ?_
  refine V.sipush (pc := 5) (z := 364) dX2_costOf_5 (by decide +kernel) ⟨by decide, by decide⟩ ?_
  refine V.icmp_ge (pc := 8) 23 dX2_costOf_8 (by decide) (fun hc => by exfalso; omega) (fun h8 => ?_)
  refine V.aload_n (pc := 11) 0 dX2_costOf_11 rfl ?_
  refine V.gr (pc := 12) 2 0 55 flX2_11 dX2_costOf_12 (kS_54) (by decide) (by decide) rfl (kR_54_0) ?_
  refine V.bipush (pc := 15) (z := 6) dX2_costOf_15 (by decide +kernel) ⟨by decide, by decide⟩ ?_
  refine V.aald (pc := 17) (o' := 62) (len := 7) (t := 1) 6 dX2_costOf_17 (kS_55) (by decide) (kR_55_6) (rfl) (by decide) ?_
  refine V.iload_n (pc := 18) 1 dX2_costOf_18 rfl ?_
  refine V.ia (pc := 19) (len := 364) v (hi 62 v) dX2_costOf_19 (kS_62) (rfl) (by omega) (rfl) ?_
  refine V.goto (pc := 20) 26 dX2_costOf_20 (by decide) ?_
  refine V.iret (pc := 26) (z := (hi 62 v)) dX2_costOf_26 rfl ?_
  exact hq

set_option maxRecDepth 100000 in
theorem c_X2_countUpTo_54 (hi hl : HI) (c : Nat → Int) (hc : hi 62 = c) (x : Int) (Q : QT) (hq : Q (some (vI (ctF c x 364 : Nat))) KW hi hl) : Con eX2_countUpTo [vR 54, vI x] KW hi hl Q := by
  refine Con.ofV (by decide +kernel) (Nat.le_of_ble_eq_true rfl) ?_
  show V eX2_countUpTo none KW 0 [(0, vR 54), (1, vI x)] [] hi hl 0 0 Q
  refine V.iconst (pc := 0) (z := 0) dX2_countUpTo_0 rfl ⟨by decide, by decide⟩ ?_
  refine V.istore_n (pc := 1) (i := 2) dX2_countUpTo_1 rfl (by decide) (ls' := [(2, vI 0), (0, vR 54), (1, vI x)]) rfl ?_
  refine V.iconst (pc := 2) (z := 0) dX2_countUpTo_2 rfl ⟨by decide, by decide⟩ ?_
  refine V.istore_n (pc := 3) (i := 3) dX2_countUpTo_3 rfl (by decide) (ls' := [(3, vI 0), (2, vI 0), (0, vR 54), (1, vI x)]) rfl ?_
  have lp4 : ∀ (fu4 : Nat) (k : Nat), (k ≤ 364) → 364 - k < fu4 → V eX2_countUpTo none KW 4 [(0, vR 54), (1, vI x), (2, vI ((ctF c x k : Nat) : Int)), (3, vI ((k : Nat) : Int))] [] hi hl 0 0 Q := by
    intro fu4
    induction fu4 with
    | zero => intro k hk hm4; exact absurd hm4 (Nat.not_lt_zero _)
    | succ fu4 ih4 =>
      intro k hk hm4
      have hcl := ctF_le c x k
      refine V.iload_n (pc := 4) 3 dX2_countUpTo_4 rfl ?_
      refine V.sipush (pc := 5) (z := 364) dX2_countUpTo_5 (by decide +kernel) ⟨by decide, by decide⟩ ?_
      refine V.icmp_ge (pc := 8) 33 dX2_countUpTo_8 (by decide) (fun h8 => ?_) (fun h8 => ?_)
      · skip
        refine V.iload_n (pc := 33) 2 dX2_countUpTo_33 rfl ?_
        refine V.iret (pc := 34) (z := ((ctF c x k : Nat) : Int)) dX2_countUpTo_34 rfl ?_
        have e : k = 364 := by omega
        subst e
        exact hq
      · skip
        refine V.aload_n (pc := 11) 0 dX2_countUpTo_11 rfl ?_
        refine V.gr (pc := 12) 2 0 55 flX2_11 dX2_countUpTo_12 (kS_54) (by decide) (by decide) rfl (kR_54_0) ?_
        refine V.bipush (pc := 15) (z := 6) dX2_countUpTo_15 (by decide +kernel) ⟨by decide, by decide⟩ ?_
        refine V.aald (pc := 17) (o' := 62) (len := 7) (t := 1) 6 dX2_countUpTo_17 (kS_55) (by decide) (kR_55_6) (rfl) (by decide) ?_
        refine V.iload_n (pc := 18) 3 dX2_countUpTo_18 rfl ?_
        refine V.ia (pc := 19) (len := 364) k (c k) dX2_countUpTo_19 (kS_62) (rfl) (by omega) (by rw [hc]) ?_
        refine V.iload_n (pc := 20) 1 dX2_countUpTo_20 rfl ?_
        refine V.icmp_gt (pc := 21) 27 dX2_countUpTo_21 (by decide) (fun h21 => ?_) (fun h21 => ?_)
        · skip
          refine V.iinc (pc := 27) (r := ((k + 1 : Nat) : Int)) 3 dX2_countUpTo_27 rfl (w32_of (by omega) (by omega) (by omega)) (by decide) (ls' := [(3, vI ((k + 1 : Nat) : Int)), (0, vR 54), (1, vI x), (2, vI ((ctF c x k : Nat) : Int))]) rfl ?_
          refine V.goto (pc := 30) 4 dX2_countUpTo_30 (by decide) ?_
          refine V.locs [1, 2, 3, 0] (ls' := [(0, vR 54), (1, vI x), (2, vI ((ctF c x k : Nat) : Int)), (3, vI ((k + 1 : Nat) : Int))]) rfl ?_
          have hct : ctF c x (k + 1) = ctF c x k + 0 := by rw [ctF_s, if_neg (by omega)]
          have hct : ctF c x (k + 1) = ctF c x k := hct
          rw [← hct]
          exact ih4 (k + 1) (by omega) (by omega)
        · skip
          refine V.iinc (pc := 24) (r := ((ctF c x k + 1 : Nat) : Int)) 2 dX2_countUpTo_24 rfl (w32_of (by omega) (by omega) (by omega)) (by decide) (ls' := [(2, vI ((ctF c x k + 1 : Nat) : Int)), (0, vR 54), (1, vI x), (3, vI ((k : Nat) : Int))]) rfl ?_
          refine V.iinc (pc := 27) (r := ((k + 1 : Nat) : Int)) 3 dX2_countUpTo_27 rfl (w32_of (by omega) (by omega) (by omega)) (by decide) (ls' := [(3, vI ((k + 1 : Nat) : Int)), (2, vI ((ctF c x k + 1 : Nat) : Int)), (0, vR 54), (1, vI x)]) rfl ?_
          refine V.goto (pc := 30) 4 dX2_countUpTo_30 (by decide) ?_
          refine V.locs [2, 3, 1, 0] (ls' := [(0, vR 54), (1, vI x), (2, vI ((ctF c x k + 1 : Nat) : Int)), (3, vI ((k + 1 : Nat) : Int))]) rfl ?_
          have hct : ctF c x (k + 1) = ctF c x k + 1 := by rw [ctF_s, if_pos (by omega)]
          rw [← hct]
          exact ih4 (k + 1) (by omega) (by omega)
  refine V.locs [2, 3, 1, 0] (ls' := [(0, vR 54), (1, vI x), (2, vI 0), (3, vI 0)]) rfl ?_
  exact lp4 _ 0 (by omega) (Nat.lt_succ_self _)

set_option maxRecDepth 100000 in
theorem c_X2_waysOf_54 (hi hl : HI) (c n : Nat → Int) (hc : hi 62 = c) (hn : hl 70 = n) (v : Nat) (hv : v < 364) (Q : QT) (hq : Q (some (vL (if c v < 1000 ∧ c v = hi 54 5 then n v else 0))) KW hi hl) : Con eX2_waysOf [vR 54, vI (v : Nat)] KW hi hl Q := by
  refine Con.ofV (by decide +kernel) (Nat.le_of_ble_eq_true rfl) ?_
  show V eX2_waysOf none KW 0 [(0, vR 54), (1, vI ((v : Nat) : Int))] [] hi hl 0 0 Q
  subst hc hn
  refine V.aload_n (pc := 0) 0 dX2_waysOf_0 rfl ?_
  refine V.iload_n (pc := 1) 1 dX2_waysOf_1 rfl ?_
  refine V.callV (pc := 2) (e1 := eX2_costOf) (o := 54) (c := 2) 1 [vI ((v : Nat) : Int)] [] mfX2_costOf slX2_costOf mlX2_97 dX2_waysOf_2 (kS_54) (by decide) rfl rfl rfl (Nat.le_of_ble_eq_true rfl) ⟨by decide, by decide, by decide, by decide⟩ ?_
  refine c_X2_costOf_54 hi hl v (by omega) _ ?_
  refine V.qI (pc := 2) rfl rfl ?_
  refine V.istore_n (pc := 5) (i := 2) dX2_waysOf_5 rfl (by decide) (ls' := [(2, vI (hi 62 v)), (0, vR 54), (1, vI ((v : Nat) : Int))]) rfl ?_
  refine V.iload_n (pc := 6) 0 dX2_waysOf_6 rfl ?_
  refine V.sipush (pc := 7) (z := 1000) dX2_waysOf_7 (by decide +kernel) ⟨by decide, by decide⟩ ?_
  refine V.icmp_ge (pc := 10) 33 dX2_waysOf_10 (by decide) (fun h10 => ?_) (fun h10 => ?_)
  · skip
    refine V.lconst (pc := 33) (z := 0) dX2_waysOf_33 (by decide +kernel) ⟨by decide, by decide⟩ ?_
    refine V.lret (pc := 34) (z := 0) dX2_waysOf_34 rfl ?_
    first | (rw [if_pos (by omega)] at hq; exact hq) | (rw [if_neg (by omega)] at hq; exact hq)
  · skip
    refine V.iload_n (pc := 13) 0 dX2_waysOf_13 rfl ?_
    refine V.aload_n (pc := 14) 1 dX2_waysOf_14 rfl ?_
    refine V.gi (pc := 15) 2 5 (hi 54 5) flX2_33 dX2_waysOf_15 (kS_54) (by decide) (by decide) rfl (rfl) ?_
    refine V.icmp_ne (pc := 18) 33 dX2_waysOf_18 (by decide) (fun h18 => ?_) (fun h18 => ?_)
    · skip
      refine V.lconst (pc := 33) (z := 0) dX2_waysOf_33 (by decide +kernel) ⟨by decide, by decide⟩ ?_
      refine V.lret (pc := 34) (z := 0) dX2_waysOf_34 rfl ?_
      first | (rw [if_pos (by omega)] at hq; exact hq) | (rw [if_neg (by omega)] at hq; exact hq)
    · skip
      refine V.aload_n (pc := 21) 1 dX2_waysOf_21 rfl ?_
      refine V.gr (pc := 22) 2 1 63 flX2_18 dX2_waysOf_22 (kS_54) (by decide) (by decide) rfl (kR_54_1) ?_
      refine V.bipush (pc := 25) (z := 6) dX2_waysOf_25 (by decide +kernel) ⟨by decide, by decide⟩ ?_
      refine V.aald (pc := 27) (o' := 70) (len := 7) (t := 2) 6 dX2_waysOf_27 (kS_63) (by decide) (kR_63_6) (rfl) (by decide) ?_
      refine V.iload_n (pc := 28) 2 dX2_waysOf_28 rfl ?_
      refine V.la (pc := 29) (len := 364) v (hl 70 v) dX2_waysOf_29 (kS_70) (rfl) (by omega) (rfl) ?_
      refine V.goto (pc := 30) 34 dX2_waysOf_30 (by decide) ?_
      refine V.lret (pc := 34) (z := (hl 70 v)) dX2_waysOf_34 rfl ?_
      first | (rw [if_pos (by omega)] at hq; exact hq) | (rw [if_neg (by omega)] at hq; exact hq)

set_option maxRecDepth 100000 in
theorem c_X2_reckon_54 (hi hl C N : HI) (B f fl : Nat → Int) (hT : TB (hi 2) (hi 3)) (σ : SG) (hC : CR hi 10 σ) (H : Nat → Bool) (hH : ∀ j, j < nn σ → hi 35 j = b2i (H j)) (hHO : HOK σ H) (L : Int) (Q : QT) (hq : ∀ (C' N' : HI) (B' f' fl' : Nat → Int), HQ (hFin σ H L) (C' 6) (N' 6) f' fl' → Q none KW (upR (upR (blk hi 56 C') 71 B') 54 f') (upR (blk hl 64 N') 54 fl')) : Con eX2_reckon [vR 54, vR 10, vR 35, vR 1, vI L] KW (upR (upR (blk hi 56 C) 71 B) 54 f) (upR (blk hl 64 N) 54 fl) Q := by
  refine Con.ofV (by decide +kernel) (Nat.le_of_ble_eq_true rfl) ?_
  show V eX2_reckon none KW 0 [(0, vR 54), (1, vR 10), (2, vR 35), (3, vR 1), (4, vI L)] [] (upR (upR (blk hi 56 C) 71 B) 54 f) (upR (blk hl 64 N) 54 fl) 0 0 Q
  have hwf := hC.1
  have hn16 := hwf.2.2.1
  refine V.iconst (pc := 0) (z := 0) dX2_reckon_0 rfl ⟨by decide, by decide⟩ ?_
  refine V.istore (pc := 1) (i := 5) dX2_reckon_1 (by decide) (ls' := [(5, vI 0), (0, vR 54), (1, vR 10), (2, vR 35), (3, vR 1), (4, vI L)]) rfl ?_
  have lp3 : ∀ (fu3 : Nat) (k : Nat) (C1 : HI) (N1 : HI) (B1 : Nat → Int), (k ≤ 7) → (∀ j, j < k → B1 j = 0 ∧ ∀ v, v < 364 → C1 j v = 0 ∧ N1 j v = 1) → 7 - k < fu3 → V eX2_reckon none KW 3 [(0, vR 54), (1, vR 10), (2, vR 35), (3, vR 1), (4, vI L), (5, vI ((k : Nat) : Int))] [] (upR (upR (blk hi 56 C1) 71 B1) 54 f) (upR (blk hl 64 N1) 54 fl) 0 0 Q := by
    intro fu3
    induction fu3 with
    | zero => intro k C1 N1 B1 hk h1 hm3; exact absurd hm3 (Nat.not_lt_zero _)
    | succ fu3 ih3 =>
      intro k C1 N1 B1 hk h1 hm3
      refine V.iload (pc := 3) 5 dX2_reckon_3 rfl ?_
      refine V.bipush (pc := 5) (z := 6) dX2_reckon_5 (by decide +kernel) ⟨by decide, by decide⟩ ?_
      refine V.icmp_gt (pc := 7) 22 dX2_reckon_7 (by decide) (fun h7 => ?_) (fun h7 => ?_)
      · skip
        refine V.iconst (pc := 22) (z := 0) dX2_reckon_22 rfl ⟨by decide, by decide⟩ ?_
        refine V.istore (pc := 23) (i := 5) dX2_reckon_23 (by decide) (ls' := [(5, vI 0), (0, vR 54), (1, vR 10), (2, vR 35), (3, vR 1), (4, vI L)]) rfl ?_
        have lp25 : ∀ (fu25 : Nat) (k : Nat) (C2 : HI) (N2 : HI) (B2 : Nat → Int), (k ≤ 6) → (AgH C2 N2 B2 (hI σ L k)) → 6 - k < fu25 → V eX2_reckon none KW 25 [(0, vR 54), (1, vR 10), (2, vR 35), (3, vR 1), (4, vI L), (5, vI ((k : Nat) : Int))] [] (upR (upR (blk hi 56 C2) 71 B2) 54 f) (upR (blk hl 64 N2) 54 fl) 0 0 Q := by
          intro fu25
          induction fu25 with
          | zero => intro k C2 N2 B2 hk2 hA hm25; exact absurd hm25 (Nat.not_lt_zero _)
          | succ fu25 ih25 =>
            intro k C2 N2 B2 hk2 hA hm25
            refine V.iload (pc := 25) 5 dX2_reckon_25 rfl ?_
            refine V.bipush (pc := 27) (z := 6) dX2_reckon_27 (by decide +kernel) ⟨by decide, by decide⟩ ?_
            refine V.icmp_ge (pc := 29) 69 dX2_reckon_29 (by decide) (fun h29 => ?_) (fun h29 => ?_)
            · skip
              refine V.aload_n (pc := 69) 1 dX2_reckon_69 rfl ?_
              refine V.gr (pc := 70) 0 2 13 flX2_59 dX2_reckon_70 (kS_10) (by decide) (by decide) rfl (kR_10_2) ?_
              refine V.astore (pc := 73) (i := 5) dX2_reckon_73 (by decide) (ls' := [(5, vR 13), (0, vR 54), (1, vR 10), (2, vR 35), (3, vR 1), (4, vI L)]) rfl ?_
              refine V.aload (pc := 75) 0 dX2_reckon_75 rfl ?_
              refine V.gi (pc := 77) 1 3 ((nn σ : Nat) : Int) flX2_63 dX2_reckon_77 (kS_13) (by decide) (by decide) rfl (hC.2.2.2.1) ?_
              refine V.aload_n (pc := 80) 3 dX2_reckon_80 rfl ?_
              refine V.alen (pc := 81) (len := 16) (t := 2) dX2_reckon_81 (kS_35) (by decide) (by decide) ?_
              refine V.mmin (pc := 82) (((nn σ : Nat) : Int)) mmX2_68 mm_st mm_in mm_cd dX2_reckon_82 (by decide) (Nat.le_of_ble_eq_true rfl) (if_neg (by omega)) ?_
              refine V.iconst (pc := 85) (z := 1) dX2_reckon_85 rfl ⟨by decide, by decide⟩ ?_
              refine V.isub (pc := 86) ((((nn σ : Nat) : Int) - 1)) dX2_reckon_86 (w32_of (by omega) (by omega) (by omega)) ?_
              refine V.istore (pc := 87) (i := 6) dX2_reckon_87 (by decide) (ls' := [(6, vI (((nn σ : Nat) : Int) - 1)), (5, vR 13), (0, vR 54), (1, vR 10), (2, vR 35), (3, vR 1), (4, vI L)]) rfl ?_
              have lp89 : ∀ (fu89 : Nat) (k : Nat) (C3 : HI) (N3 : HI) (B3 : Nat → Int) (f3v : Nat → Int) (fl3v : Nat → Int), (k ≤ nn σ) → (AgH C3 N3 B3 (hRec σ H L (nn σ - k))) → k < fu89 → V eX2_reckon none KW 89 [(0, vR 54), (1, vR 10), (2, vR 35), (3, vR 1), (4, vI L), (5, vR 13), (6, vI ((k : Int) - 1))] [] (upR (upR (blk hi 56 C3) 71 B3) 54 f3v) (upR (blk hl 64 N3) 54 fl3v) 0 0 Q := by
                intro fu89
                induction fu89 with
                | zero => intro k C3 N3 B3 f3v fl3v hk3 hA3 hm89; exact absurd hm89 (Nat.not_lt_zero _)
                | succ fu89 ih89 =>
                  intro k C3 N3 B3 f3v fl3v hk3 hA3 hm89
                  have hbd := AgH_w hA3 (BdH_rec hwf hHO (nn σ - k) (by omega))
                  refine V.iload (pc := 89) 6 dX2_reckon_89 rfl ?_
                  refine V.if_lt (pc := 91) 132 dX2_reckon_91 (by decide) (fun h91 => ?_) (fun h91 => ?_)
                  · have hk0 : k = 0 := by omega
                    subst hk0
                    rw [Nat.sub_zero] at hA3
                    refine V.aload_n (pc := 132) 0 dX2_reckon_132 rfl ?_
                    refine V.callV (pc := 133) (e1 := eX2_someBirdIsBound) (o := 54) (c := 2) 0 [] [] mfX2_someBirdIsBound slX2_someBirdIsBound mlX2_87 dX2_reckon_133 (kS_54) (by decide) rfl rfl rfl (Nat.le_of_ble_eq_true rfl) ⟨by decide, by decide, by decide, by decide⟩ ?_
                    refine c_X2_someBirdIsBound_54 hi hl C3 N3 B3 f3v fl3v (hRec σ H L (nn σ)).2.2 (fun s hs => (hA3 s hs).1) _ ?_
                    refine V.qI (pc := 133) rfl rfl ?_
                    refine V.if_eq (pc := 136) 145 dX2_reckon_136 (by decide) (fun h136 => ?_) (fun h136 => ?_)
                    · skip
                      refine V.aload_n (pc := 145) 0 dX2_reckon_145 rfl ?_
                      refine V.callV (pc := 146) (e1 := eX2_sumUp) (o := 54) (c := 2) 0 [] [] mfX2_sumUp slX2_sumUp mlX2_94 dX2_reckon_146 (kS_54) (by decide) rfl rfl rfl (Nat.le_of_ble_eq_true rfl) ⟨by decide, by decide, by decide, by decide⟩ ?_
                      refine c_X2_sumUp_54 hi hl C3 N3 B3 f3v fl3v (fun j hj => hbd 6 (by omega) j hj) _ (fun f4 fl4 hs5 hs6 hs7 hs8 => ?_)
                      refine V.qV (pc := 146) rfl rfl ?_
                      refine V.vret (pc := 149) dX2_reckon_149 rfl ?_
                      exact hq _ _ _ _ _ (by rw [hFin_f (b2i_F h136)]; exact HQ_mk hA3 hs5 hs6 hs7 hs8)
                    · skip
                      refine V.aload_n (pc := 139) 0 dX2_reckon_139 rfl ?_
                      refine V.bipush (pc := 140) (z := 6) dX2_reckon_140 (by decide +kernel) ⟨by decide, by decide⟩ ?_
                      refine V.callV (pc := 142) (e1 := eX2_forbid) (o := 54) (c := 2) 1 [vI 6] [] mfX2_forbid slX2_forbid mlX2_91 dX2_reckon_142 (kS_54) (by decide) rfl rfl rfl (Nat.le_of_ble_eq_true rfl) ⟨by decide, by decide, by decide, by decide⟩ ?_
                      refine c_X2_forbid_54 hi hl C3 N3 B3 f3v fl3v 6 (by omega) _ (fun g8 m8 hf8 => ?_)
                      refine V.qV (pc := 142) rfl rfl ?_
                      refine V.aload_n (pc := 145) 0 dX2_reckon_145 rfl ?_
                      refine V.callV (pc := 146) (e1 := eX2_sumUp) (o := 54) (c := 2) 0 [] [] mfX2_sumUp slX2_sumUp mlX2_94 dX2_reckon_146 (kS_54) (by decide) rfl rfl rfl (Nat.le_of_ble_eq_true rfl) ⟨by decide, by decide, by decide, by decide⟩ ?_
                      refine c_X2_sumUp_54 hi hl (upR C3 6 g8) (upR N3 6 m8) (updF B3 6 1) f3v fl3v (fun j hj => by rw [upR_s, (hf8 j hj).1]; omega) _ (fun f4 fl4 hs5 hs6 hs7 hs8 => ?_)
                      refine V.qV (pc := 146) rfl rfl ?_
                      refine V.vret (pc := 149) dX2_reckon_149 rfl ?_
                      exact hq _ _ _ _ _ (by rw [hFin_t (b2i_T h136)]; exact HQ_mk (AgH_up hA3 hf8 rfl) hs5 hs6 hs7 hs8)
                  · have hk1 : 1 ≤ k := by omega
                    have hpk := hwf.2.2.2.1 (k - 1) (by omega)
                    have hCk := hC.2.2.2.2.1 (k - 1) (by omega)
                    refine V.aload_n (pc := 94) 2 dX2_reckon_94 rfl ?_
                    refine V.iload (pc := 95) 6 dX2_reckon_95 rfl ?_
                    refine V.za (pc := 97) (len := 16) (k - 1) (b2i (H (k - 1))) dX2_reckon_97 (kS_35) (by omega) (by omega) (hH _ (by omega)) ?_
                    refine V.if_eq (pc := 98) 126 dX2_reckon_98 (by decide) (fun h98 => ?_) (fun h98 => ?_)
                    · have hHk := b2i_F h98
                      refine V.iinc (pc := 126) (r := (((k - 1 : Nat) : Int) - 1)) 6 dX2_reckon_126 rfl (w32_of (by omega) (by omega) (by omega)) (by decide) (ls' := [(6, vI (((k - 1 : Nat) : Int) - 1)), (0, vR 54), (1, vR 10), (2, vR 35), (3, vR 1), (4, vI L), (5, vR 13)]) rfl ?_
                      refine V.goto (pc := 129) 89 dX2_reckon_129 (by decide) ?_
                      refine V.locs [1, 2, 3, 4, 5, 6, 0] (ls' := [(0, vR 54), (1, vR 10), (2, vR 35), (3, vR 1), (4, vI L), (5, vR 13), (6, vI (((k - 1 : Nat) : Int) - 1))]) rfl ?_
                      exact ih89 (k - 1) C3 N3 B3 f3v fl3v (by omega) (by rw [hRec_k hk1 hk3, hHk]; exact hA3) (by omega)
                    · have hHk := b2i_T h98
                      have hs6 := hHO (k - 1) (by omega) hHk
                      have hsoo := hwf.1 (he σ (k - 1)) (by omega)
                      refine V.aload_n (pc := 101) 0 dX2_reckon_101 rfl ?_
                      refine V.aload (pc := 102) 5 dX2_reckon_102 rfl ?_
                      refine V.gr (pc := 104) 1 0 14 flX2_74 dX2_reckon_104 (kS_13) (by decide) (by decide) rfl (kR_13_0) ?_
                      refine V.iload (pc := 107) 6 dX2_reckon_107 rfl ?_
                      refine V.ia (pc := 109) (len := 16) (k - 1) ((sp' σ (k - 1) : Nat) : Int) dX2_reckon_109 (kS_14) (by omega) (by omega) (hCk.1) ?_
                      refine V.aload (pc := 110) 5 dX2_reckon_110 rfl ?_
                      refine V.gr (pc := 112) 1 1 15 flX2_77 dX2_reckon_112 (kS_13) (by decide) (by decide) rfl (kR_13_1) ?_
                      refine V.iload (pc := 115) 6 dX2_reckon_115 rfl ?_
                      refine V.ia (pc := 117) (len := 16) (k - 1) ((he σ (k - 1) : Nat) : Int) dX2_reckon_117 (kS_15) (by omega) (by omega) (hCk.2.1) ?_
                      refine V.aload_n (pc := 118) 1 dX2_reckon_118 rfl ?_
                      refine V.gr (pc := 119) 0 0 11 flX2_80 dX2_reckon_119 (kS_10) (by decide) (by decide) rfl (kR_10_0) ?_
                      refine V.aload_n (pc := 122) 3 dX2_reckon_122 rfl ?_
                      refine V.callV (pc := 123) (e1 := eX2_goBack) (o := 54) (c := 2) 4 [vI ((sp' σ (k - 1) : Nat) : Int), vI ((he σ (k - 1) : Nat) : Int), vR 11, vR 1] [] mfX2_goBack slX2_goBack mlX2_83 dX2_reckon_123 (kS_54) (by decide) rfl rfl rfl (Nat.le_of_ble_eq_true rfl) ⟨by decide, by decide, by decide, by decide⟩ ?_
                      refine c_X2_goBack_54 hi hl C3 N3 B3 f3v fl3v hT (sp' σ (k - 1)) (he σ (k - 1)) (so σ (he σ (k - 1))) (by omega) (by omega) (by omega) hsoo (hC.2.1 _ (by omega)) hbd ((hRec σ H L (nn σ - k)).2.2 (he σ (k - 1))) (hA3 _ (by omega)).1 _ (fun hbF => ?_) (fun hbT g m g2 m2 f9 fl9 hg1 hg2 => ?_)
                      · skip
                        refine V.qV (pc := 123) rfl rfl ?_
                        refine V.iinc (pc := 126) (r := (((k - 1 : Nat) : Int) - 1)) 6 dX2_reckon_126 rfl (w32_of (by omega) (by omega) (by omega)) (by decide) (ls' := [(6, vI (((k - 1 : Nat) : Int) - 1)), (0, vR 54), (1, vR 10), (2, vR 35), (3, vR 1), (4, vI L), (5, vR 13)]) rfl ?_
                        refine V.goto (pc := 129) 89 dX2_reckon_129 (by decide) ?_
                        refine V.locs [1, 2, 3, 4, 5, 6, 0] (ls' := [(0, vR 54), (1, vR 10), (2, vR 35), (3, vR 1), (4, vI L), (5, vR 13), (6, vI (((k - 1 : Nat) : Int) - 1))]) rfl ?_
                        exact ih89 (k - 1) C3 N3 B3 f3v fl3v (by omega) (by rw [hRec_k hk1 hk3, if_pos hHk, gb_F hbF]; exact hA3) (by omega)
                      · skip
                        refine V.qV (pc := 123) rfl rfl ?_
                        refine V.iinc (pc := 126) (r := (((k - 1 : Nat) : Int) - 1)) 6 dX2_reckon_126 rfl (w32_of (by omega) (by omega) (by omega)) (by decide) (ls' := [(6, vI (((k - 1 : Nat) : Int) - 1)), (0, vR 54), (1, vR 10), (2, vR 35), (3, vR 1), (4, vI L), (5, vR 13)]) rfl ?_
                        refine V.goto (pc := 129) 89 dX2_reckon_129 (by decide) ?_
                        refine V.locs [1, 2, 3, 4, 5, 6, 0] (ls' := [(0, vR 54), (1, vR 10), (2, vR 35), (3, vR 1), (4, vI L), (5, vR 13), (6, vI (((k - 1 : Nat) : Int) - 1))]) rfl ?_
                        exact ih89 (k - 1) (upR (upR C3 ((sp' σ (k - 1))) g) ((he σ (k - 1))) g2) (upR (upR N3 ((sp' σ (k - 1))) m) ((he σ (k - 1))) m2) (updF (updF B3 ((sp' σ (k - 1))) 1) ((he σ (k - 1))) 0) f9 fl9 (by omega) (by rw [hRec_k hk1 hk3, if_pos hHk]; exact AgH_gb hA3 (by omega) (by omega) hsoo hbT hg1 hg2) (by omega)
              refine V.locs [2, 3, 4, 5, 6, 1, 0] (ls' := [(0, vR 54), (1, vR 10), (2, vR 35), (3, vR 1), (4, vI L), (5, vR 13), (6, vI (((nn σ : Nat) : Int) - 1))]) rfl ?_
              exact lp89 _ (nn σ) C2 N2 B2 f fl (by omega) (by have e6 : k = 6 := (by omega); subst e6; rw [Nat.sub_self]; exact hA) (Nat.lt_succ_self _)
            · skip
              refine V.iload (pc := 32) 5 dX2_reckon_32 rfl ?_
              refine V.iload (pc := 34) 4 dX2_reckon_34 rfl ?_
              refine V.icmp_eq (pc := 36) 63 dX2_reckon_36 (by decide) (fun h36 => ?_) (fun h36 => ?_)
              · skip
                refine V.iinc (pc := 63) (r := ((k + 1 : Nat) : Int)) 5 dX2_reckon_63 rfl (w32_of (by omega) (by omega) (by omega)) (by decide) (ls' := [(5, vI ((k + 1 : Nat) : Int)), (0, vR 54), (1, vR 10), (2, vR 35), (3, vR 1), (4, vI L)]) rfl ?_
                refine V.goto (pc := 66) 25 dX2_reckon_66 (by decide) ?_
                refine V.locs [1, 2, 3, 4, 5, 0] (ls' := [(0, vR 54), (1, vR 10), (2, vR 35), (3, vR 1), (4, vI L), (5, vI ((k + 1 : Nat) : Int))]) rfl ?_
                exact ih25 (k + 1) C2 N2 B2 (by omega) (by rw [hI_L (by omega)]; exact hA) (by omega)
              · skip
                refine V.aload_n (pc := 39) 1 dX2_reckon_39 rfl ?_
                refine V.gr (pc := 40) 0 1 12 flX2_49 dX2_reckon_40 (kS_10) (by decide) (by decide) rfl (kR_10_1) ?_
                refine V.iload (pc := 43) 5 dX2_reckon_43 rfl ?_
                refine V.ia (pc := 45) (len := 6) k (encC (te σ k)) dX2_reckon_45 (kS_12) (rfl) (by omega) (hC.2.2.1 k (by omega)) ?_
                refine V.iconst (pc := 46) (z := (-1)) dX2_reckon_46 rfl ⟨by decide, by decide⟩ ?_
                refine V.icmp_eq (pc := 47) 63 dX2_reckon_47 (by decide) (fun h47 => ?_) (fun h47 => ?_)
                · have htn : te σ k = none := encC_none.mp (by omega)
                  refine V.iinc (pc := 63) (r := ((k + 1 : Nat) : Int)) 5 dX2_reckon_63 rfl (w32_of (by omega) (by omega) (by omega)) (by decide) (ls' := [(5, vI ((k + 1 : Nat) : Int)), (0, vR 54), (1, vR 10), (2, vR 35), (3, vR 1), (4, vI L)]) rfl ?_
                  refine V.goto (pc := 66) 25 dX2_reckon_66 (by decide) ?_
                  refine V.locs [1, 2, 3, 4, 5, 0] (ls' := [(0, vR 54), (1, vR 10), (2, vR 35), (3, vR 1), (4, vI L), (5, vI ((k + 1 : Nat) : Int))]) rfl ?_
                  exact ih25 (k + 1) C2 N2 B2 (by omega) (by rw [hI_none htn]; exact hA) (by omega)
                · obtain ⟨w, hw⟩ := encC_some h47
                  have hwl := hwf.2.1 k (by omega) w hw
                  refine V.aload_n (pc := 50) 0 dX2_reckon_50 rfl ?_
                  refine V.iload (pc := 51) 5 dX2_reckon_51 rfl ?_
                  refine V.aload_n (pc := 53) 1 dX2_reckon_53 rfl ?_
                  refine V.gr (pc := 54) 0 1 12 flX2_49 dX2_reckon_54 (kS_10) (by decide) (by decide) rfl (kR_10_1) ?_
                  refine V.iload (pc := 57) 5 dX2_reckon_57 rfl ?_
                  refine V.ia (pc := 59) (len := 6) k ((w : Nat) : Int) dX2_reckon_59 (kS_12) (rfl) (by omega) ((hC.2.2.1 k (by omega)).trans (by rw [hw]; rfl)) ?_
                  refine V.callV (pc := 60) (e1 := eX2_bind) (o := 54) (c := 2) 2 [vI ((k : Nat) : Int), vI ((w : Nat) : Int)] [] mfX2_bind slX2_bind mlX2_55 dX2_reckon_60 (kS_54) (by decide) rfl rfl rfl (Nat.le_of_ble_eq_true rfl) ⟨by decide, by decide, by decide, by decide⟩ ?_
                  refine c_X2_bind_54 hi hl C2 N2 B2 f fl k (by omega) w (hwl) _ (fun g5 m5 hf5 => ?_)
                  refine V.qV (pc := 60) rfl rfl ?_
                  refine V.iinc (pc := 63) (r := ((k + 1 : Nat) : Int)) 5 dX2_reckon_63 rfl (w32_of (by omega) (by omega) (by omega)) (by decide) (ls' := [(5, vI ((k + 1 : Nat) : Int)), (0, vR 54), (1, vR 10), (2, vR 35), (3, vR 1), (4, vI L)]) rfl ?_
                  refine V.goto (pc := 66) 25 dX2_reckon_66 (by decide) ?_
                  refine V.locs [1, 2, 3, 4, 5, 0] (ls' := [(0, vR 54), (1, vR 10), (2, vR 35), (3, vR 1), (4, vI L), (5, vI ((k + 1 : Nat) : Int))]) rfl ?_
                  exact ih25 (k + 1) (upR C2 k g5) (upR N2 k m5) (updF B2 k 1) (by omega) (by rw [hI_b hw (by omega)]; exact AgH_up hA hf5 rfl) (by omega)
        refine V.locs [1, 2, 3, 4, 5, 0] (ls' := [(0, vR 54), (1, vR 10), (2, vR 35), (3, vR 1), (4, vI L), (5, vI 0)]) rfl ?_
        exact lp25 _ 0 C1 N1 B1 (by omega) (fun s hs => h1 s (by omega)) (Nat.lt_succ_self _)
      · skip
        refine V.aload_n (pc := 10) 0 dX2_reckon_10 rfl ?_
        refine V.iload (pc := 11) 5 dX2_reckon_11 rfl ?_
        refine V.callV (pc := 13) (e1 := eX2_free) (o := 54) (c := 2) 1 [vI ((k : Nat) : Int)] [] mfX2_free slX2_free mlX2_45 dX2_reckon_13 (kS_54) (by decide) rfl rfl rfl (Nat.le_of_ble_eq_true rfl) ⟨by decide, by decide, by decide, by decide⟩ ?_
        refine c_X2_free_54 hi hl C1 N1 B1 f fl k (by omega) _ (fun g1 m1 hf1 => ?_)
        refine V.qV (pc := 13) rfl rfl ?_
        refine V.iinc (pc := 16) (r := ((k + 1 : Nat) : Int)) 5 dX2_reckon_16 rfl (w32_of (by omega) (by omega) (by omega)) (by decide) (ls' := [(5, vI ((k + 1 : Nat) : Int)), (0, vR 54), (1, vR 10), (2, vR 35), (3, vR 1), (4, vI L)]) rfl ?_
        refine V.goto (pc := 19) 3 dX2_reckon_19 (by decide) ?_
        refine V.locs [1, 2, 3, 4, 5, 0] (ls' := [(0, vR 54), (1, vR 10), (2, vR 35), (3, vR 1), (4, vI L), (5, vI ((k + 1 : Nat) : Int))]) rfl ?_
        exact ih3 (k + 1) (upR C1 k g1) (upR N1 k m1) (updF B1 k 0) (by omega) (fun j hj => by by_cases e : j = k; { subst e; rw [updF_s, upR_s, upR_s]; exact ⟨rfl, hf1⟩ }; { rw [updF_n e, upR_n e, upR_n e]; exact h1 j (by omega) }) (by omega)
  refine V.locs [1, 2, 3, 4, 5, 0] (ls' := [(0, vR 54), (1, vR 10), (2, vR 35), (3, vR 1), (4, vI L), (5, vI 0)]) rfl ?_
  exact lp3 _ 0 C N B (by omega) (fun j hj => absurd hj (Nat.not_lt_zero j)) (Nat.lt_succ_self _)

