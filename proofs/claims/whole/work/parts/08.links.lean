/-! words by their places: methods, fields, links (made by mklinks.py) -/
theorem inU_0 : ∀ w ∈ u_ws (Rn 0) (Tn 0) (nF 0), w ∈ GT := fun w hw => by
  have h : u_ws (Rn 0) (Tn 0) (nF 0) = [137, 139, 141, 143, 145].filterMap (fun i => tables_1[i]?) := by decide +kernel
  have hg : (u_ws (Rn 0) (Tn 0) (nF 0)).all goodWord = true := by decide +kernel
  have hq := List.all_eq_true.mp hg w hw
  rw [h] at hw
  obtain ⟨i, -, hi⟩ := List.mem_filterMap.mp hw
  exact gt_of i hi hq
theorem inU_1 : ∀ w ∈ u_ws (Rn 1) (Tn 1) (nF 1), w ∈ GT := fun w hw => by
  have h : u_ws (Rn 1) (Tn 1) (nF 1) = [101, 103, 105, 107].filterMap (fun i => tables_1[i]?) := by decide +kernel
  have hg : (u_ws (Rn 1) (Tn 1) (nF 1)).all goodWord = true := by decide +kernel
  have hq := List.all_eq_true.mp hg w hw
  rw [h] at hw
  obtain ⟨i, -, hi⟩ := List.mem_filterMap.mp hw
  exact gt_of i hi hq
theorem inU_2 : ∀ w ∈ u_ws (Rn 2) (Tn 2) (nF 2), w ∈ GT := fun w hw => by
  have h : u_ws (Rn 2) (Tn 2) (nF 2) = [194, 196, 198, 200, 202, 204, 206, 208, 210].filterMap (fun i => tables_1[i]?) := by decide +kernel
  have hg : (u_ws (Rn 2) (Tn 2) (nF 2)).all goodWord = true := by decide +kernel
  have hq := List.all_eq_true.mp hg w hw
  rw [h] at hw
  obtain ⟨i, -, hi⟩ := List.mem_filterMap.mp hw
  exact gt_of i hi hq
theorem inU_3 : ∀ w ∈ u_ws (Rn 3) (Tn 3) (nF 3), w ∈ GT := fun w hw => by
  have h : u_ws (Rn 3) (Tn 3) (nF 3) = [71, 73].filterMap (fun i => tables_1[i]?) := by decide +kernel
  have hg : (u_ws (Rn 3) (Tn 3) (nF 3)).all goodWord = true := by decide +kernel
  have hq := List.all_eq_true.mp hg w hw
  rw [h] at hw
  obtain ⟨i, -, hi⟩ := List.mem_filterMap.mp hw
  exact gt_of i hi hq
theorem inU_4 : ∀ w ∈ u_ws (Rn 4) (Tn 4) (nF 4), w ∈ GT := fun w hw => by
  have h : u_ws (Rn 4) (Tn 4) (nF 4) = [54, 56, 58].filterMap (fun i => tables_1[i]?) := by decide +kernel
  have hg : (u_ws (Rn 4) (Tn 4) (nF 4)).all goodWord = true := by decide +kernel
  have hq := List.all_eq_true.mp hg w hw
  rw [h] at hw
  obtain ⟨i, -, hi⟩ := List.mem_filterMap.mp hw
  exact gt_of i hi hq
theorem inU_5 : ∀ w ∈ u_ws (Rn 5) (Tn 5) (nF 5), w ∈ GT := fun w hw => by
  have h : u_ws (Rn 5) (Tn 5) (nF 5) = [225, 227, 229, 231, 233].filterMap (fun i => tables_1[i]?) := by decide +kernel
  have hg : (u_ws (Rn 5) (Tn 5) (nF 5)).all goodWord = true := by decide +kernel
  have hq := List.all_eq_true.mp hg w hw
  rw [h] at hw
  obtain ⟨i, -, hi⟩ := List.mem_filterMap.mp hw
  exact gt_of i hi hq
theorem inU_6 : ∀ w ∈ u_ws (Rn 6) (Tn 6) (nF 6), w ∈ GT := fun w hw => by
  have h : u_ws (Rn 6) (Tn 6) (nF 6) = [161, 163, 165, 167].filterMap (fun i => tables_1[i]?) := by decide +kernel
  have hg : (u_ws (Rn 6) (Tn 6) (nF 6)).all goodWord = true := by decide +kernel
  have hq := List.all_eq_true.mp hg w hw
  rw [h] at hw
  obtain ⟨i, -, hi⟩ := List.mem_filterMap.mp hw
  exact gt_of i hi hq
theorem inU_7 : ∀ w ∈ u_ws (Rn 7) (Tn 7) (nF 7), w ∈ GT := fun w hw => by
  have h : u_ws (Rn 7) (Tn 7) (nF 7) = [249, 251, 253, 255, 257, 259, 261, 263, 265, 267, 269, 271, 273].filterMap (fun i => tables_1[i]?) := by decide +kernel
  have hg : (u_ws (Rn 7) (Tn 7) (nF 7)).all goodWord = true := by decide +kernel
  have hq := List.all_eq_true.mp hg w hw
  rw [h] at hw
  obtain ⟨i, -, hi⟩ := List.mem_filterMap.mp hw
  exact gt_of i hi hq
theorem inU_8 : ∀ w ∈ u_ws (Rn 8) (Tn 8) (nF 8), w ∈ GT := fun w hw => by
  have h : u_ws (Rn 8) (Tn 8) (nF 8) = [625, 627, 629, 631, 633, 635, 637, 639, 641, 643, 645, 647, 649, 651, 653, 655, 657, 659, 661, 663, 665, 667, 669, 671, 673, 675, 677, 679, 681].filterMap (fun i => tables_1[i]?) := by decide +kernel
  have hg : (u_ws (Rn 8) (Tn 8) (nF 8)).all goodWord = true := by decide +kernel
  have hq := List.all_eq_true.mp hg w hw
  rw [h] at hw
  obtain ⟨i, -, hi⟩ := List.mem_filterMap.mp hw
  exact gt_of i hi hq
theorem inU : ∀ c, c < 9 → ∀ w ∈ u_ws (Rn c) (Tn c) (nF c), w ∈ GT := by
  intro c h
  rcases (show c = 0 ∨ c = 1 ∨ c = 2 ∨ c = 3 ∨ c = 4 ∨ c = 5 ∨ c = 6 ∨ c = 7 ∨ c = 8 by omega) with rfl | rfl | rfl | rfl | rfl | rfl | rfl | rfl | rfl
  · exact inU_0
  · exact inU_1
  · exact inU_2
  · exact inU_3
  · exact inU_4
  · exact inU_5
  · exact inU_6
  · exact inU_7
  · exact inU_8
abbrev rmOf (d mc ms : Nat) : Room := { frames := d, cells := mc, slots := ms, locals := 40 * d }
abbrev eX0_init : EV := (yX0_init, cX0_init, 1, none, rmOf 2 6 64)
theorem mfX0_init : MF eX0_init 0 := ⟨gt_of 114 (by decide +kernel) rfl, gt_of 5 (by decide +kernel) rfl, by decide +kernel, by decide +kernel, by decide +kernel⟩
theorem slX0_init : Cond.instanceMethod yX0_init ∈ GT := gt_of 113 (by decide +kernel) rfl
abbrev eX0_copy : EV := (yX0_copy, cX0_copy, 3, none, rmOf 1 0 0)
theorem mfX0_copy : MF eX0_copy 1 := ⟨gt_of 580 (by decide +kernel) rfl, gt_of 5 (by decide +kernel) rfl, by decide +kernel, by decide +kernel, by decide +kernel⟩
theorem slX0_copy : Cond.instanceMethod yX0_copy ∈ GT ∧ Cond.selects yX0_copy.cls yX0_copy yX0_copy ∈ GT := ⟨gt_of 578 (by decide +kernel) rfl, gt_of 579 (by decide +kernel) rfl⟩
abbrev eX1_init : EV := (yX1_init, cX1_init, 1, none, rmOf 1 3 48)
theorem mfX1_init : MF eX1_init 0 := ⟨gt_of 80 (by decide +kernel) rfl, gt_of 4 (by decide +kernel) rfl, by decide +kernel, by decide +kernel, by decide +kernel⟩
theorem slX1_init : Cond.instanceMethod yX1_init ∈ GT := gt_of 79 (by decide +kernel) rfl
abbrev eX1_copy : EV := (yX1_copy, cX1_copy, 3, none, rmOf 0 0 0)
theorem mfX1_copy : MF eX1_copy 1 := ⟨gt_of 330 (by decide +kernel) rfl, gt_of 4 (by decide +kernel) rfl, by decide +kernel, by decide +kernel, by decide +kernel⟩
theorem slX1_copy : Cond.instanceMethod yX1_copy ∈ GT ∧ Cond.selects yX1_copy.cls yX1_copy yX1_copy ∈ GT := ⟨gt_of 328 (by decide +kernel) rfl, gt_of 329 (by decide +kernel) rfl⟩
abbrev eX1_add : EV := (yX1_add, cX1_add, 3, none, rmOf 0 0 0)
theorem mfX1_add : MF eX1_add 2 := ⟨gt_of 311 (by decide +kernel) rfl, gt_of 4 (by decide +kernel) rfl, by decide +kernel, by decide +kernel, by decide +kernel⟩
theorem slX1_add : Cond.instanceMethod yX1_add ∈ GT ∧ Cond.selects yX1_add.cls yX1_add yX1_add ∈ GT := ⟨gt_of 309 (by decide +kernel) rfl, gt_of 310 (by decide +kernel) rfl⟩
abbrev eX1_setLastDigit : EV := (yX1_setLastDigit, cX1_setLastDigit, 2, none, rmOf 0 0 0)
theorem mfX1_setLastDigit : MF eX1_setLastDigit 1 := ⟨gt_of 315 (by decide +kernel) rfl, gt_of 4 (by decide +kernel) rfl, by decide +kernel, by decide +kernel, by decide +kernel⟩
theorem slX1_setLastDigit : Cond.instanceMethod yX1_setLastDigit ∈ GT ∧ Cond.selects yX1_setLastDigit.cls yX1_setLastDigit yX1_setLastDigit ∈ GT := ⟨gt_of 313 (by decide +kernel) rfl, gt_of 314 (by decide +kernel) rfl⟩
abbrev eX1_isAnswer : EV := (yX1_isAnswer, cX1_isAnswer, 2, (some .boolean), rmOf 0 0 0)
theorem mfX1_isAnswer : MF eX1_isAnswer 1 := ⟨gt_of 351 (by decide +kernel) rfl, gt_of 4 (by decide +kernel) rfl, by decide +kernel, by decide +kernel, by decide +kernel⟩
theorem slX1_isAnswer : Cond.instanceMethod yX1_isAnswer ∈ GT ∧ Cond.selects yX1_isAnswer.cls yX1_isAnswer yX1_isAnswer ∈ GT := ⟨gt_of 349 (by decide +kernel) rfl, gt_of 350 (by decide +kernel) rfl⟩
abbrev eX2_init : EV := (yX2_init, cX2_init, 1, none, rmOf 1 17 5117)
theorem mfX2_init : MF eX2_init 0 := ⟨gt_of 175 (by decide +kernel) rfl, gt_of 7 (by decide +kernel) rfl, by decide +kernel, by decide +kernel, by decide +kernel⟩
theorem slX2_init : Cond.instanceMethod yX2_init ∈ GT := gt_of 174 (by decide +kernel) rfl
abbrev eX2_reckon : EV := (yX2_reckon, cX2_reckon, 7, none, rmOf 4 0 0)
theorem mfX2_reckon : MF eX2_reckon 4 := ⟨gt_of 414 (by decide +kernel) rfl, gt_of 7 (by decide +kernel) rfl, by decide +kernel, by decide +kernel, by decide +kernel⟩
theorem slX2_reckon : Cond.instanceMethod yX2_reckon ∈ GT ∧ Cond.selects yX2_reckon.cls yX2_reckon yX2_reckon ∈ GT := ⟨gt_of 412 (by decide +kernel) rfl, gt_of 413 (by decide +kernel) rfl⟩
abbrev eX2_costOf : EV := (yX2_costOf, cX2_costOf, 2, (some .int), rmOf 0 0 0)
theorem mfX2_costOf : MF eX2_costOf 1 := ⟨gt_of 452 (by decide +kernel) rfl, gt_of 7 (by decide +kernel) rfl, by decide +kernel, by decide +kernel, by decide +kernel⟩
theorem slX2_costOf : Cond.instanceMethod yX2_costOf ∈ GT ∧ Cond.selects yX2_costOf.cls yX2_costOf yX2_costOf ∈ GT := ⟨gt_of 450 (by decide +kernel) rfl, gt_of 451 (by decide +kernel) rfl⟩
abbrev eX2_waysOf : EV := (yX2_waysOf, cX2_waysOf, 3, (some .long), rmOf 1 0 0)
theorem mfX2_waysOf : MF eX2_waysOf 1 := ⟨gt_of 465 (by decide +kernel) rfl, gt_of 7 (by decide +kernel) rfl, by decide +kernel, by decide +kernel, by decide +kernel⟩
theorem slX2_waysOf : Cond.instanceMethod yX2_waysOf ∈ GT ∧ Cond.selects yX2_waysOf.cls yX2_waysOf yX2_waysOf ∈ GT := ⟨gt_of 463 (by decide +kernel) rfl, gt_of 464 (by decide +kernel) rfl⟩
abbrev eX2_countUpTo : EV := (yX2_countUpTo, cX2_countUpTo, 4, (some .int), rmOf 0 0 0)
theorem mfX2_countUpTo : MF eX2_countUpTo 1 := ⟨gt_of 483 (by decide +kernel) rfl, gt_of 7 (by decide +kernel) rfl, by decide +kernel, by decide +kernel, by decide +kernel⟩
theorem slX2_countUpTo : Cond.instanceMethod yX2_countUpTo ∈ GT ∧ Cond.selects yX2_countUpTo.cls yX2_countUpTo yX2_countUpTo ∈ GT := ⟨gt_of 481 (by decide +kernel) rfl, gt_of 482 (by decide +kernel) rfl⟩
abbrev eX2_free : EV := (yX2_free, cX2_free, 3, none, rmOf 0 0 0)
theorem mfX2_free : MF eX2_free 1 := ⟨gt_of 418 (by decide +kernel) rfl, gt_of 7 (by decide +kernel) rfl, by decide +kernel, by decide +kernel, by decide +kernel⟩
theorem slX2_free : Cond.instanceMethod yX2_free ∈ GT ∧ Cond.selects yX2_free.cls yX2_free yX2_free ∈ GT := ⟨gt_of 417 (by decide +kernel) rfl, gt_sel (q := (yX2_free, nF 2)) 8 (by decide +kernel)⟩
abbrev eX2_forbid : EV := (yX2_forbid, cX2_forbid, 3, none, rmOf 0 0 0)
theorem mfX2_forbid : MF eX2_forbid 1 := ⟨gt_of 426 (by decide +kernel) rfl, gt_of 7 (by decide +kernel) rfl, by decide +kernel, by decide +kernel, by decide +kernel⟩
theorem slX2_forbid : Cond.instanceMethod yX2_forbid ∈ GT ∧ Cond.selects yX2_forbid.cls yX2_forbid yX2_forbid ∈ GT := ⟨gt_of 425 (by decide +kernel) rfl, gt_sel (q := (yX2_forbid, nF 2)) 10 (by decide +kernel)⟩
abbrev eX2_bind : EV := (yX2_bind, cX2_bind, 3, none, rmOf 1 0 0)
theorem mfX2_bind : MF eX2_bind 2 := ⟨gt_of 422 (by decide +kernel) rfl, gt_of 7 (by decide +kernel) rfl, by decide +kernel, by decide +kernel, by decide +kernel⟩
theorem slX2_bind : Cond.instanceMethod yX2_bind ∈ GT ∧ Cond.selects yX2_bind.cls yX2_bind yX2_bind ∈ GT := ⟨gt_of 421 (by decide +kernel) rfl, gt_sel (q := (yX2_bind, nF 2)) 9 (by decide +kernel)⟩
abbrev eX2_goBack : EV := (yX2_goBack, cX2_goBack, 6, none, rmOf 3 0 0)
theorem mfX2_goBack : MF eX2_goBack 4 := ⟨gt_of 433 (by decide +kernel) rfl, gt_of 7 (by decide +kernel) rfl, by decide +kernel, by decide +kernel, by decide +kernel⟩
theorem slX2_goBack : Cond.instanceMethod yX2_goBack ∈ GT ∧ Cond.selects yX2_goBack.cls yX2_goBack yX2_goBack ∈ GT := ⟨gt_of 432 (by decide +kernel) rfl, gt_sel (q := (yX2_goBack, nF 2)) 11 (by decide +kernel)⟩
abbrev eX2_weigh : EV := (yX2_weigh, cX2_weigh, 9, none, rmOf 2 0 0)
theorem mfX2_weigh : MF eX2_weigh 4 := ⟨gt_of 438 (by decide +kernel) rfl, gt_of 7 (by decide +kernel) rfl, by decide +kernel, by decide +kernel, by decide +kernel⟩
theorem slX2_weigh : Cond.instanceMethod yX2_weigh ∈ GT ∧ Cond.selects yX2_weigh.cls yX2_weigh yX2_weigh ∈ GT := ⟨gt_of 437 (by decide +kernel) rfl, gt_sel (q := (yX2_weigh, nF 2)) 12 (by decide +kernel)⟩
abbrev eX2_someBirdIsBound : EV := (yX2_someBirdIsBound, cX2_someBirdIsBound, 2, (some .boolean), rmOf 0 0 0)
theorem mfX2_someBirdIsBound : MF eX2_someBirdIsBound 0 := ⟨gt_of 444 (by decide +kernel) rfl, gt_of 7 (by decide +kernel) rfl, by decide +kernel, by decide +kernel, by decide +kernel⟩
theorem slX2_someBirdIsBound : Cond.instanceMethod yX2_someBirdIsBound ∈ GT ∧ Cond.selects yX2_someBirdIsBound.cls yX2_someBirdIsBound yX2_someBirdIsBound ∈ GT := ⟨gt_of 443 (by decide +kernel) rfl, gt_sel (q := (yX2_someBirdIsBound, nF 2)) 13 (by decide +kernel)⟩
abbrev eX2_sumUp : EV := (yX2_sumUp, cX2_sumUp, 2, none, rmOf 1 0 0)
theorem mfX2_sumUp : MF eX2_sumUp 0 := ⟨gt_of 448 (by decide +kernel) rfl, gt_of 7 (by decide +kernel) rfl, by decide +kernel, by decide +kernel, by decide +kernel⟩
theorem slX2_sumUp : Cond.instanceMethod yX2_sumUp ∈ GT ∧ Cond.selects yX2_sumUp.cls yX2_sumUp yX2_sumUp ∈ GT := ⟨gt_of 447 (by decide +kernel) rfl, gt_sel (q := (yX2_sumUp, nF 2)) 14 (by decide +kernel)⟩
abbrev eX3_init : EV := (yX3_init, cX3_init, 1, none, rmOf 1 1 48)
theorem mfX3_init : MF eX3_init 0 := ⟨gt_of 66 (by decide +kernel) rfl, gt_of 3 (by decide +kernel) rfl, by decide +kernel, by decide +kernel, by decide +kernel⟩
theorem slX3_init : Cond.instanceMethod yX3_init ∈ GT := gt_of 65 (by decide +kernel) rfl
abbrev eX3_add : EV := (yX3_add, cX3_add, 2, (some .boolean), rmOf 0 0 0)
theorem mfX3_add : MF eX3_add 1 := ⟨gt_of 294 (by decide +kernel) rfl, gt_of 3 (by decide +kernel) rfl, by decide +kernel, by decide +kernel, by decide +kernel⟩
theorem slX3_add : Cond.instanceMethod yX3_add ∈ GT ∧ Cond.selects yX3_add.cls yX3_add yX3_add ∈ GT := ⟨gt_of 292 (by decide +kernel) rfl, gt_of 293 (by decide +kernel) rfl⟩
abbrev eX3_sayingFault : EV := (yX3_sayingFault, cX3_sayingFault, 2, (some .int), rmOf 0 0 0)
theorem mfX3_sayingFault : MF eX3_sayingFault 0 := ⟨gt_of 322 (by decide +kernel) rfl, gt_of 3 (by decide +kernel) rfl, by decide +kernel, by decide +kernel, by decide +kernel⟩
theorem slX3_sayingFault : Cond.instanceMethod yX3_sayingFault ∈ GT ∧ Cond.selects yX3_sayingFault.cls yX3_sayingFault yX3_sayingFault ∈ GT := ⟨gt_of 320 (by decide +kernel) rfl, gt_of 321 (by decide +kernel) rfl⟩
abbrev eX3_readSaying : EV := (yX3_readSaying, cX3_readSaying, 3, (some .int), rmOf 1 0 0)
theorem mfX3_readSaying : MF eX3_readSaying 0 := ⟨gt_of 374 (by decide +kernel) rfl, gt_of 3 (by decide +kernel) rfl, by decide +kernel, by decide +kernel, by decide +kernel⟩
theorem slX3_readSaying : Cond.instanceMethod yX3_readSaying ∈ GT ∧ Cond.selects yX3_readSaying.cls yX3_readSaying yX3_readSaying ∈ GT := ⟨gt_of 372 (by decide +kernel) rfl, gt_of 373 (by decide +kernel) rfl⟩
abbrev eX3_readDays : EV := (yX3_readDays, cX3_readDays, 7, (some .int), rmOf 2 0 0)
theorem mfX3_readDays : MF eX3_readDays 1 := ⟨gt_of 306 (by decide +kernel) rfl, gt_of 3 (by decide +kernel) rfl, by decide +kernel, by decide +kernel, by decide +kernel⟩
theorem slX3_readDays : Cond.instanceMethod yX3_readDays ∈ GT ∧ Cond.selects yX3_readDays.cls yX3_readDays yX3_readDays ∈ GT := ⟨gt_of 304 (by decide +kernel) rfl, gt_of 305 (by decide +kernel) rfl⟩
abbrev eX3_speakerOf : EV := (yX3_speakerOf, cX3_speakerOf, 1, (some .int), rmOf 1 0 0)
theorem mfX3_speakerOf : MF eX3_speakerOf 1 := ⟨gt_of 318 (by decide +kernel) rfl, gt_of 3 (by decide +kernel) rfl, by decide +kernel, by decide +kernel, by decide +kernel⟩
theorem slX3_speakerOf : Cond.static yX3_speakerOf ∈ GT := gt_of 317 (by decide +kernel) rfl
abbrev eX4_init : EV := (yX4_init, cX4_init, 4, none, rmOf 3 2 6805)
theorem mfX4_init : MF eX4_init 0 := ⟨gt_of 24 (by decide +kernel) rfl, gt_of 2 (by decide +kernel) rfl, by decide +kernel, by decide +kernel, by decide +kernel⟩
theorem slX4_init : Cond.instanceMethod yX4_init ∈ GT := gt_of 23 (by decide +kernel) rfl
abbrev eX4_list : EV := (yX4_list, cX4_list, 9, none, rmOf 2 0 0)
theorem mfX4_list : MF eX4_list 3 := ⟨gt_of 29 (by decide +kernel) rfl, gt_of 2 (by decide +kernel) rfl, by decide +kernel, by decide +kernel, by decide +kernel⟩
theorem slX4_list : Cond.instanceMethod yX4_list ∈ GT ∧ Cond.selects yX4_list.cls yX4_list yX4_list ∈ GT := ⟨gt_of 28 (by decide +kernel) rfl, gt_sel (q := (yX4_list, nF 4)) 0 (by decide +kernel)⟩
abbrev eX4_addUnlike : EV := (yX4_addUnlike, cX4_addUnlike, 5, none, rmOf 0 0 0)
theorem mfX4_addUnlike : MF eX4_addUnlike 3 := ⟨gt_of 50 (by decide +kernel) rfl, gt_of 2 (by decide +kernel) rfl, by decide +kernel, by decide +kernel, by decide +kernel⟩
theorem slX4_addUnlike : Cond.instanceMethod yX4_addUnlike ∈ GT ∧ Cond.selects yX4_addUnlike.cls yX4_addUnlike yX4_addUnlike ∈ GT := ⟨gt_of 49 (by decide +kernel) rfl, gt_sel (q := (yX4_addUnlike, nF 4)) 1 (by decide +kernel)⟩
abbrev eX4_slipped : EV := (yX4_slipped, cX4_slipped, 7, (some .int), rmOf 1 0 0)
theorem mfX4_slipped : MF eX4_slipped 5 := ⟨gt_of 41 (by decide +kernel) rfl, gt_of 2 (by decide +kernel) rfl, by decide +kernel, by decide +kernel, by decide +kernel⟩
theorem slX4_slipped : Cond.static yX4_slipped ∈ GT := gt_of 40 (by decide +kernel) rfl
abbrev eX4_rowOf : EV := (yX4_rowOf, cX4_rowOf, 3, (some .int), rmOf 0 0 0)
theorem mfX4_rowOf : MF eX4_rowOf 2 := ⟨gt_of 366 (by decide +kernel) rfl, gt_of 2 (by decide +kernel) rfl, by decide +kernel, by decide +kernel, by decide +kernel⟩
theorem slX4_rowOf : Cond.static yX4_rowOf ∈ GT := gt_of 365 (by decide +kernel) rfl
abbrev eX4_count : EV := (yX4_count, cX4_count, 4, (some .int), rmOf 1 0 0)
theorem mfX4_count : MF eX4_count 2 := ⟨gt_of 380 (by decide +kernel) rfl, gt_of 2 (by decide +kernel) rfl, by decide +kernel, by decide +kernel, by decide +kernel⟩
theorem slX4_count : Cond.instanceMethod yX4_count ∈ GT ∧ Cond.selects yX4_count.cls yX4_count yX4_count ∈ GT := ⟨gt_of 378 (by decide +kernel) rfl, gt_of 379 (by decide +kernel) rfl⟩
abbrev eX4_numbered : EV := (yX4_numbered, cX4_numbered, 6, (some .int), rmOf 1 0 0)
theorem mfX4_numbered : MF eX4_numbered 3 := ⟨gt_of 363 (by decide +kernel) rfl, gt_of 2 (by decide +kernel) rfl, by decide +kernel, by decide +kernel, by decide +kernel⟩
theorem slX4_numbered : Cond.instanceMethod yX4_numbered ∈ GT ∧ Cond.selects yX4_numbered.cls yX4_numbered yX4_numbered ∈ GT := ⟨gt_of 361 (by decide +kernel) rfl, gt_of 362 (by decide +kernel) rfl⟩
abbrev eX5_init : EV := (yX5_init, cX5_init, 1, none, rmOf 1 3 38)
theorem mfX5_init : MF eX5_init 0 := ⟨gt_of 218 (by decide +kernel) rfl, gt_of 8 (by decide +kernel) rfl, by decide +kernel, by decide +kernel, by decide +kernel⟩
theorem slX5_init : Cond.instanceMethod yX5_init ∈ GT := gt_of 217 (by decide +kernel) rfl
abbrev eX5_prepare : EV := (yX5_prepare, cX5_prepare, 5, none, rmOf 2 0 0)
theorem mfX5_prepare : MF eX5_prepare 3 := ⟨gt_of 506 (by decide +kernel) rfl, gt_of 8 (by decide +kernel) rfl, by decide +kernel, by decide +kernel, by decide +kernel⟩
theorem slX5_prepare : Cond.instanceMethod yX5_prepare ∈ GT ∧ Cond.selects yX5_prepare.cls yX5_prepare yX5_prepare ∈ GT := ⟨gt_of 504 (by decide +kernel) rfl, gt_of 505 (by decide +kernel) rfl⟩
abbrev eX5_goBack : EV := (yX5_goBack, cX5_goBack, 5, none, rmOf 1 0 0)
theorem mfX5_goBack : MF eX5_goBack 2 := ⟨gt_of 511 (by decide +kernel) rfl, gt_of 8 (by decide +kernel) rfl, by decide +kernel, by decide +kernel, by decide +kernel⟩
theorem slX5_goBack : Cond.instanceMethod yX5_goBack ∈ GT ∧ Cond.selects yX5_goBack.cls yX5_goBack yX5_goBack ∈ GT := ⟨gt_of 510 (by decide +kernel) rfl, gt_sel (q := (yX5_goBack, nF 5)) 17 (by decide +kernel)⟩
abbrev eX5_tells : EV := (yX5_tells, cX5_tells, 4, (some .boolean), rmOf 1 0 0)
theorem mfX5_tells : MF eX5_tells 1 := ⟨gt_of 526 (by decide +kernel) rfl, gt_of 8 (by decide +kernel) rfl, by decide +kernel, by decide +kernel, by decide +kernel⟩
theorem slX5_tells : Cond.instanceMethod yX5_tells ∈ GT ∧ Cond.selects yX5_tells.cls yX5_tells yX5_tells ∈ GT := ⟨gt_of 524 (by decide +kernel) rfl, gt_of 525 (by decide +kernel) rfl⟩
abbrev eX5_fewestBirds : EV := (yX5_fewestBirds, cX5_fewestBirds, 4, (some .int), rmOf 2 0 0)
theorem mfX5_fewestBirds : MF eX5_fewestBirds 0 := ⟨gt_of 516 (by decide +kernel) rfl, gt_of 8 (by decide +kernel) rfl, by decide +kernel, by decide +kernel, by decide +kernel⟩
theorem slX5_fewestBirds : Cond.instanceMethod yX5_fewestBirds ∈ GT ∧ Cond.selects yX5_fewestBirds.cls yX5_fewestBirds yX5_fewestBirds ∈ GT := ⟨gt_of 514 (by decide +kernel) rfl, gt_of 515 (by decide +kernel) rfl⟩
abbrev eX5_slipsIn : EV := (yX5_slipsIn, cX5_slipsIn, 2, (some .boolean), rmOf 0 0 0)
theorem mfX5_slipsIn : MF eX5_slipsIn 1 := ⟨gt_of 530 (by decide +kernel) rfl, gt_of 8 (by decide +kernel) rfl, by decide +kernel, by decide +kernel, by decide +kernel⟩
theorem slX5_slipsIn : Cond.instanceMethod yX5_slipsIn ∈ GT ∧ Cond.selects yX5_slipsIn.cls yX5_slipsIn yX5_slipsIn ∈ GT := ⟨gt_of 529 (by decide +kernel) rfl, gt_sel (q := (yX5_slipsIn, nF 5)) 18 (by decide +kernel)⟩
abbrev eX5_halves : EV := (yX5_halves, cX5_halves, 5, (some .boolean), rmOf 0 0 0)
theorem mfX5_halves : MF eX5_halves 2 := ⟨gt_of 534 (by decide +kernel) rfl, gt_of 8 (by decide +kernel) rfl, by decide +kernel, by decide +kernel, by decide +kernel⟩
theorem slX5_halves : Cond.instanceMethod yX5_halves ∈ GT ∧ Cond.selects yX5_halves.cls yX5_halves yX5_halves ∈ GT := ⟨gt_of 533 (by decide +kernel) rfl, gt_sel (q := (yX5_halves, nF 5)) 19 (by decide +kernel)⟩
abbrev eX6_init : EV := (yX6_init, cX6_init, 1, none, rmOf 1 2 22)
theorem mfX6_init : MF eX6_init 0 := ⟨gt_of 153 (by decide +kernel) rfl, gt_of 6 (by decide +kernel) rfl, by decide +kernel, by decide +kernel, by decide +kernel⟩
theorem slX6_init : Cond.instanceMethod yX6_init ∈ GT := gt_of 152 (by decide +kernel) rfl
abbrev eX6_throughDays : EV := (yX6_throughDays, cX6_throughDays, 5, none, rmOf 3 0 0)
theorem mfX6_throughDays : MF eX6_throughDays 2 := ⟨gt_of 338 (by decide +kernel) rfl, gt_of 6 (by decide +kernel) rfl, by decide +kernel, by decide +kernel, by decide +kernel⟩
theorem slX6_throughDays : Cond.instanceMethod yX6_throughDays ∈ GT ∧ Cond.selects yX6_throughDays.cls yX6_throughDays yX6_throughDays ∈ GT := ⟨gt_of 336 (by decide +kernel) rfl, gt_of 337 (by decide +kernel) rfl⟩
abbrev eX6_beginYears : EV := (yX6_beginYears, cX6_beginYears, 3, none, rmOf 1 0 0)
theorem mfX6_beginYears : MF eX6_beginYears 2 := ⟨gt_of 554 (by decide +kernel) rfl, gt_of 6 (by decide +kernel) rfl, by decide +kernel, by decide +kernel, by decide +kernel⟩
theorem slX6_beginYears : Cond.instanceMethod yX6_beginYears ∈ GT ∧ Cond.selects yX6_beginYears.cls yX6_beginYears yX6_beginYears ∈ GT := ⟨gt_of 552 (by decide +kernel) rfl, gt_of 553 (by decide +kernel) rfl⟩
abbrev eX6_throughDrawnDay : EV := (yX6_throughDrawnDay, cX6_throughDrawnDay, 5, none, rmOf 3 0 0)
theorem mfX6_throughDrawnDay : MF eX6_throughDrawnDay 3 := ⟨gt_of 558 (by decide +kernel) rfl, gt_of 6 (by decide +kernel) rfl, by decide +kernel, by decide +kernel, by decide +kernel⟩
theorem slX6_throughDrawnDay : Cond.instanceMethod yX6_throughDrawnDay ∈ GT ∧ Cond.selects yX6_throughDrawnDay.cls yX6_throughDrawnDay yX6_throughDrawnDay ∈ GT := ⟨gt_of 556 (by decide +kernel) rfl, gt_of 557 (by decide +kernel) rfl⟩
abbrev eX6_forgetAll : EV := (yX6_forgetAll, cX6_forgetAll, 2, none, rmOf 0 0 0)
theorem mfX6_forgetAll : MF eX6_forgetAll 0 := ⟨gt_of 342 (by decide +kernel) rfl, gt_of 6 (by decide +kernel) rfl, by decide +kernel, by decide +kernel, by decide +kernel⟩
theorem slX6_forgetAll : Cond.instanceMethod yX6_forgetAll ∈ GT ∧ Cond.selects yX6_forgetAll.cls yX6_forgetAll yX6_forgetAll ∈ GT := ⟨gt_of 341 (by decide +kernel) rfl, gt_sel (q := (yX6_forgetAll, nF 6)) 3 (by decide +kernel)⟩
abbrev eX6_listen : EV := (yX6_listen, cX6_listen, 6, none, rmOf 1 0 0)
theorem mfX6_listen : MF eX6_listen 3 := ⟨gt_of 346 (by decide +kernel) rfl, gt_of 6 (by decide +kernel) rfl, by decide +kernel, by decide +kernel, by decide +kernel⟩
theorem slX6_listen : Cond.instanceMethod yX6_listen ∈ GT ∧ Cond.selects yX6_listen.cls yX6_listen yX6_listen ∈ GT := ⟨gt_of 345 (by decide +kernel) rfl, gt_sel (q := (yX6_listen, nF 6)) 4 (by decide +kernel)⟩
abbrev eX6_saidIn : EV := (yX6_saidIn, cX6_saidIn, 4, (some .int), rmOf 1 0 0)
theorem mfX6_saidIn : MF eX6_saidIn 2 := ⟨gt_of 359 (by decide +kernel) rfl, gt_of 6 (by decide +kernel) rfl, by decide +kernel, by decide +kernel, by decide +kernel⟩
theorem slX6_saidIn : Cond.instanceMethod yX6_saidIn ∈ GT ∧ Cond.selects yX6_saidIn.cls yX6_saidIn yX6_saidIn ∈ GT := ⟨gt_of 358 (by decide +kernel) rfl, gt_sel (q := (yX6_saidIn, nF 6)) 6 (by decide +kernel)⟩
abbrev eX6_keep : EV := (yX6_keep, cX6_keep, 6, none, rmOf 2 0 0)
theorem mfX6_keep : MF eX6_keep 4 := ⟨gt_of 355 (by decide +kernel) rfl, gt_of 6 (by decide +kernel) rfl, by decide +kernel, by decide +kernel, by decide +kernel⟩
theorem slX6_keep : Cond.instanceMethod yX6_keep ∈ GT ∧ Cond.selects yX6_keep.cls yX6_keep yX6_keep ∈ GT := ⟨gt_of 354 (by decide +kernel) rfl, gt_sel (q := (yX6_keep, nF 6)) 5 (by decide +kernel)⟩
abbrev eX6_draw : EV := (yX6_draw, cX6_draw, 7, (some .int), rmOf 2 0 0)
theorem mfX6_draw : MF eX6_draw 3 := ⟨gt_of 562 (by decide +kernel) rfl, gt_of 6 (by decide +kernel) rfl, by decide +kernel, by decide +kernel, by decide +kernel⟩
theorem slX6_draw : Cond.instanceMethod yX6_draw ∈ GT ∧ Cond.selects yX6_draw.cls yX6_draw yX6_draw ∈ GT := ⟨gt_of 561 (by decide +kernel) rfl, gt_sel (q := (yX6_draw, nF 6)) 20 (by decide +kernel)⟩
abbrev eX6_nextSeed : EV := (yX6_nextSeed, cX6_nextSeed, 1, none, rmOf 0 0 0)
theorem mfX6_nextSeed : MF eX6_nextSeed 0 := ⟨gt_of 566 (by decide +kernel) rfl, gt_of 6 (by decide +kernel) rfl, by decide +kernel, by decide +kernel, by decide +kernel⟩
theorem slX6_nextSeed : Cond.instanceMethod yX6_nextSeed ∈ GT ∧ Cond.selects yX6_nextSeed.cls yX6_nextSeed yX6_nextSeed ∈ GT := ⟨gt_of 565 (by decide +kernel) rfl, gt_sel (q := (yX6_nextSeed, nF 6)) 21 (by decide +kernel)⟩
abbrev eX7_init : EV := (yX7_init, cX7_init, 1, none, rmOf 4 76 17448)
theorem mfX7_init : MF eX7_init 0 := ⟨gt_of 16 (by decide +kernel) rfl, gt_of 1 (by decide +kernel) rfl, by decide +kernel, by decide +kernel, by decide +kernel⟩
theorem slX7_init : Cond.instanceMethod yX7_init ∈ GT := gt_of 15 (by decide +kernel) rfl
abbrev eX7_sort : EV := (yX7_sort, cX7_sort, 4, (some .int), rmOf 1 0 0)
theorem mfX7_sort : MF eX7_sort 2 := ⟨gt_of 279 (by decide +kernel) rfl, gt_of 1 (by decide +kernel) rfl, by decide +kernel, by decide +kernel, by decide +kernel⟩
theorem slX7_sort : Cond.instanceMethod yX7_sort ∈ GT ∧ Cond.selects yX7_sort.cls yX7_sort yX7_sort ∈ GT := ⟨gt_of 277 (by decide +kernel) rfl, gt_of 278 (by decide +kernel) rfl⟩
abbrev eX7_say : EV := (yX7_say, cX7_say, 2, (some .int), rmOf 1 0 0)
theorem mfX7_say : MF eX7_say 1 := ⟨gt_of 290 (by decide +kernel) rfl, gt_of 1 (by decide +kernel) rfl, by decide +kernel, by decide +kernel, by decide +kernel⟩
theorem slX7_say : Cond.instanceMethod yX7_say ∈ GT ∧ Cond.selects yX7_say.cls yX7_say yX7_say ∈ GT := ⟨gt_of 288 (by decide +kernel) rfl, gt_of 289 (by decide +kernel) rfl⟩
abbrev eX7_wipe : EV := (yX7_wipe, cX7_wipe, 2, (some .int), rmOf 0 0 0)
theorem mfX7_wipe : MF eX7_wipe 0 := ⟨gt_of 298 (by decide +kernel) rfl, gt_of 1 (by decide +kernel) rfl, by decide +kernel, by decide +kernel, by decide +kernel⟩
theorem slX7_wipe : Cond.instanceMethod yX7_wipe ∈ GT ∧ Cond.selects yX7_wipe.cls yX7_wipe yX7_wipe ∈ GT := ⟨gt_of 296 (by decide +kernel) rfl, gt_of 297 (by decide +kernel) rfl⟩
abbrev eX7_fault : EV := (yX7_fault, cX7_fault, 2, (some .int), rmOf 3 0 0)
theorem mfX7_fault : MF eX7_fault 1 := ⟨gt_of 302 (by decide +kernel) rfl, gt_of 1 (by decide +kernel) rfl, by decide +kernel, by decide +kernel, by decide +kernel⟩
theorem slX7_fault : Cond.instanceMethod yX7_fault ∈ GT ∧ Cond.selects yX7_fault.cls yX7_fault yX7_fault ∈ GT := ⟨gt_of 300 (by decide +kernel) rfl, gt_of 301 (by decide +kernel) rfl⟩
abbrev eX7_days : EV := (yX7_days, cX7_days, 1, (some .int), rmOf 3 0 0)
theorem mfX7_days : MF eX7_days 0 := ⟨gt_of 326 (by decide +kernel) rfl, gt_of 1 (by decide +kernel) rfl, by decide +kernel, by decide +kernel, by decide +kernel⟩
theorem slX7_days : Cond.instanceMethod yX7_days ∈ GT ∧ Cond.selects yX7_days.cls yX7_days yX7_days ∈ GT := ⟨gt_of 324 (by decide +kernel) rfl, gt_of 325 (by decide +kernel) rfl⟩
abbrev eX7_part : EV := (yX7_part, cX7_part, 3, (some .int), rmOf 4 0 0)
theorem mfX7_part : MF eX7_part 2 := ⟨gt_of 334 (by decide +kernel) rfl, gt_of 1 (by decide +kernel) rfl, by decide +kernel, by decide +kernel, by decide +kernel⟩
theorem slX7_part : Cond.instanceMethod yX7_part ∈ GT ∧ Cond.selects yX7_part.cls yX7_part yX7_part ∈ GT := ⟨gt_of 332 (by decide +kernel) rfl, gt_of 333 (by decide +kernel) rfl⟩
abbrev eX7_slips : EV := (yX7_slips, cX7_slips, 5, (some .int), rmOf 2 0 0)
theorem mfX7_slips : MF eX7_slips 2 := ⟨gt_of 370 (by decide +kernel) rfl, gt_of 1 (by decide +kernel) rfl, by decide +kernel, by decide +kernel, by decide +kernel⟩
theorem slX7_slips : Cond.instanceMethod yX7_slips ∈ GT ∧ Cond.selects yX7_slips.cls yX7_slips yX7_slips ∈ GT := ⟨gt_of 368 (by decide +kernel) rfl, gt_of 369 (by decide +kernel) rfl⟩
abbrev eX7_bargain : EV := (yX7_bargain, cX7_bargain, 2, (some .int), rmOf 2 0 0)
theorem mfX7_bargain : MF eX7_bargain 0 := ⟨gt_of 386 (by decide +kernel) rfl, gt_of 1 (by decide +kernel) rfl, by decide +kernel, by decide +kernel, by decide +kernel⟩
theorem slX7_bargain : Cond.instanceMethod yX7_bargain ∈ GT ∧ Cond.selects yX7_bargain.cls yX7_bargain yX7_bargain ∈ GT := ⟨gt_of 384 (by decide +kernel) rfl, gt_of 385 (by decide +kernel) rfl⟩
abbrev eX7_says : EV := (yX7_says, cX7_says, 3, (some .int), rmOf 4 0 0)
theorem mfX7_says : MF eX7_says 2 := ⟨gt_of 390 (by decide +kernel) rfl, gt_of 1 (by decide +kernel) rfl, by decide +kernel, by decide +kernel, by decide +kernel⟩
theorem slX7_says : Cond.instanceMethod yX7_says ∈ GT ∧ Cond.selects yX7_says.cls yX7_says yX7_says ∈ GT := ⟨gt_of 388 (by decide +kernel) rfl, gt_of 389 (by decide +kernel) rfl⟩
abbrev eX7_testify : EV := (yX7_testify, cX7_testify, 3, (some .int), rmOf 2 0 0)
theorem mfX7_testify : MF eX7_testify 1 := ⟨gt_of 398 (by decide +kernel) rfl, gt_of 1 (by decide +kernel) rfl, by decide +kernel, by decide +kernel, by decide +kernel⟩
theorem slX7_testify : Cond.instanceMethod yX7_testify ∈ GT ∧ Cond.selects yX7_testify.cls yX7_testify yX7_testify ∈ GT := ⟨gt_of 396 (by decide +kernel) rfl, gt_of 397 (by decide +kernel) rfl⟩
abbrev eX7_unsay : EV := (yX7_unsay, cX7_unsay, 2, (some .int), rmOf 1 0 0)
theorem mfX7_unsay : MF eX7_unsay 1 := ⟨gt_of 402 (by decide +kernel) rfl, gt_of 1 (by decide +kernel) rfl, by decide +kernel, by decide +kernel, by decide +kernel⟩
theorem slX7_unsay : Cond.instanceMethod yX7_unsay ∈ GT ∧ Cond.selects yX7_unsay.cls yX7_unsay yX7_unsay ∈ GT := ⟨gt_of 400 (by decide +kernel) rfl, gt_of 401 (by decide +kernel) rfl⟩
abbrev eX7_cost : EV := (yX7_cost, cX7_cost, 3, (some .int), rmOf 6 0 0)
theorem mfX7_cost : MF eX7_cost 0 := ⟨gt_of 406 (by decide +kernel) rfl, gt_of 1 (by decide +kernel) rfl, by decide +kernel, by decide +kernel, by decide +kernel⟩
theorem slX7_cost : Cond.instanceMethod yX7_cost ∈ GT ∧ Cond.selects yX7_cost.cls yX7_cost yX7_cost ∈ GT := ⟨gt_of 404 (by decide +kernel) rfl, gt_of 405 (by decide +kernel) rfl⟩
abbrev eX7_likely : EV := (yX7_likely, cX7_likely, 2, (some .int), rmOf 6 0 0)
theorem mfX7_likely : MF eX7_likely 1 := ⟨gt_of 456 (by decide +kernel) rfl, gt_of 1 (by decide +kernel) rfl, by decide +kernel, by decide +kernel, by decide +kernel⟩
theorem slX7_likely : Cond.instanceMethod yX7_likely ∈ GT ∧ Cond.selects yX7_likely.cls yX7_likely yX7_likely ∈ GT := ⟨gt_of 454 (by decide +kernel) rfl, gt_of 455 (by decide +kernel) rfl⟩
abbrev eX7_ways : EV := (yX7_ways, cX7_ways, 2, (some .long), rmOf 6 0 0)
theorem mfX7_ways : MF eX7_ways 0 := ⟨gt_of 460 (by decide +kernel) rfl, gt_of 1 (by decide +kernel) rfl, by decide +kernel, by decide +kernel, by decide +kernel⟩
theorem slX7_ways : Cond.instanceMethod yX7_ways ∈ GT ∧ Cond.selects yX7_ways.cls yX7_ways yX7_ways ∈ GT := ⟨gt_of 458 (by decide +kernel) rfl, gt_of 459 (by decide +kernel) rfl⟩
abbrev eX7_odds : EV := (yX7_odds, cX7_odds, 7, (some .long), rmOf 6 0 0)
theorem mfX7_odds : MF eX7_odds 1 := ⟨gt_of 470 (by decide +kernel) rfl, gt_of 1 (by decide +kernel) rfl, by decide +kernel, by decide +kernel, by decide +kernel⟩
theorem slX7_odds : Cond.instanceMethod yX7_odds ∈ GT ∧ Cond.selects yX7_odds.cls yX7_odds yX7_odds ∈ GT := ⟨gt_of 468 (by decide +kernel) rfl, gt_of 469 (by decide +kernel) rfl⟩
abbrev eX7_canBe : EV := (yX7_canBe, cX7_canBe, 2, (some .int), rmOf 6 0 0)
theorem mfX7_canBe : MF eX7_canBe 1 := ⟨gt_of 479 (by decide +kernel) rfl, gt_of 1 (by decide +kernel) rfl, by decide +kernel, by decide +kernel, by decide +kernel⟩
theorem slX7_canBe : Cond.instanceMethod yX7_canBe ∈ GT ∧ Cond.selects yX7_canBe.cls yX7_canBe yX7_canBe ∈ GT := ⟨gt_of 477 (by decide +kernel) rfl, gt_of 478 (by decide +kernel) rfl⟩
abbrev eX7_taught : EV := (yX7_taught, cX7_taught, 4, (some .int), rmOf 6 0 0)
theorem mfX7_taught : MF eX7_taught 1 := ⟨gt_of 487 (by decide +kernel) rfl, gt_of 1 (by decide +kernel) rfl, by decide +kernel, by decide +kernel, by decide +kernel⟩
theorem slX7_taught : Cond.instanceMethod yX7_taught ∈ GT ∧ Cond.selects yX7_taught.cls yX7_taught yX7_taught ∈ GT := ⟨gt_of 485 (by decide +kernel) rfl, gt_of 486 (by decide +kernel) rfl⟩
abbrev eX7_few : EV := (yX7_few, cX7_few, 2, (some .int), rmOf 5 0 0)
theorem mfX7_few : MF eX7_few 1 := ⟨gt_of 495 (by decide +kernel) rfl, gt_of 1 (by decide +kernel) rfl, by decide +kernel, by decide +kernel, by decide +kernel⟩
theorem slX7_few : Cond.instanceMethod yX7_few ∈ GT ∧ Cond.selects yX7_few.cls yX7_few yX7_few ∈ GT := ⟨gt_of 493 (by decide +kernel) rfl, gt_of 494 (by decide +kernel) rfl⟩
abbrev eX7_doubt : EV := (yX7_doubt, cX7_doubt, 3, (some .int), rmOf 5 0 0)
theorem mfX7_doubt : MF eX7_doubt 2 := ⟨gt_of 538 (by decide +kernel) rfl, gt_of 1 (by decide +kernel) rfl, by decide +kernel, by decide +kernel, by decide +kernel⟩
theorem slX7_doubt : Cond.instanceMethod yX7_doubt ∈ GT ∧ Cond.selects yX7_doubt.cls yX7_doubt yX7_doubt ∈ GT := ⟨gt_of 536 (by decide +kernel) rfl, gt_of 537 (by decide +kernel) rfl⟩
abbrev eX7_rare : EV := (yX7_rare, cX7_rare, 3, (some .int), rmOf 0 0 0)
theorem mfX7_rare : MF eX7_rare 1 := ⟨gt_of 543 (by decide +kernel) rfl, gt_of 1 (by decide +kernel) rfl, by decide +kernel, by decide +kernel, by decide +kernel⟩
theorem slX7_rare : Cond.instanceMethod yX7_rare ∈ GT ∧ Cond.selects yX7_rare.cls yX7_rare yX7_rare ∈ GT := ⟨gt_of 541 (by decide +kernel) rfl, gt_of 542 (by decide +kernel) rfl⟩
abbrev eX7_years : EV := (yX7_years, cX7_years, 6, (some .int), rmOf 4 0 0)
theorem mfX7_years : MF eX7_years 4 := ⟨gt_of 547 (by decide +kernel) rfl, gt_of 1 (by decide +kernel) rfl, by decide +kernel, by decide +kernel, by decide +kernel⟩
theorem slX7_years : Cond.instanceMethod yX7_years ∈ GT ∧ Cond.selects yX7_years.cls yX7_years yX7_years ∈ GT := ⟨gt_of 545 (by decide +kernel) rfl, gt_of 546 (by decide +kernel) rfl⟩
abbrev eX7_lost : EV := (yX7_lost, cX7_lost, 5, (some .int), rmOf 4 0 0)
theorem mfX7_lost : MF eX7_lost 3 := ⟨gt_of 572 (by decide +kernel) rfl, gt_of 1 (by decide +kernel) rfl, by decide +kernel, by decide +kernel, by decide +kernel⟩
theorem slX7_lost : Cond.instanceMethod yX7_lost ∈ GT ∧ Cond.selects yX7_lost.cls yX7_lost yX7_lost ∈ GT := ⟨gt_of 570 (by decide +kernel) rfl, gt_of 571 (by decide +kernel) rfl⟩
abbrev eX7_image : EV := (yX7_image, cX7_image, 2, (some .int), rmOf 2 0 0)
theorem mfX7_image : MF eX7_image 1 := ⟨gt_of 576 (by decide +kernel) rfl, gt_of 1 (by decide +kernel) rfl, by decide +kernel, by decide +kernel, by decide +kernel⟩
theorem slX7_image : Cond.instanceMethod yX7_image ∈ GT ∧ Cond.selects yX7_image.cls yX7_image yX7_image ∈ GT := ⟨gt_of 574 (by decide +kernel) rfl, gt_of 575 (by decide +kernel) rfl⟩
abbrev eX7_restore : EV := (yX7_restore, cX7_restore, 2, (some .int), rmOf 2 0 0)
theorem mfX7_restore : MF eX7_restore 1 := ⟨gt_of 585 (by decide +kernel) rfl, gt_of 1 (by decide +kernel) rfl, by decide +kernel, by decide +kernel, by decide +kernel⟩
theorem slX7_restore : Cond.instanceMethod yX7_restore ∈ GT ∧ Cond.selects yX7_restore.cls yX7_restore yX7_restore ∈ GT := ⟨gt_of 583 (by decide +kernel) rfl, gt_of 584 (by decide +kernel) rfl⟩
abbrev eX7_told : EV := (yX7_told, cX7_told, 2, (some .int), rmOf 4 0 0)
theorem mfX7_told : MF eX7_told 1 := ⟨gt_of 589 (by decide +kernel) rfl, gt_of 1 (by decide +kernel) rfl, by decide +kernel, by decide +kernel, by decide +kernel⟩
theorem slX7_told : Cond.instanceMethod yX7_told ∈ GT ∧ Cond.selects yX7_told.cls yX7_told yX7_told ∈ GT := ⟨gt_of 587 (by decide +kernel) rfl, gt_of 588 (by decide +kernel) rfl⟩
abbrev eX7_forgetHistories : EV := (yX7_forgetHistories, cX7_forgetHistories, 1, none, rmOf 0 0 0)
theorem mfX7_forgetHistories : MF eX7_forgetHistories 0 := ⟨gt_of 286 (by decide +kernel) rfl, gt_of 1 (by decide +kernel) rfl, by decide +kernel, by decide +kernel, by decide +kernel⟩
theorem slX7_forgetHistories : Cond.instanceMethod yX7_forgetHistories ∈ GT ∧ Cond.selects yX7_forgetHistories.cls yX7_forgetHistories yX7_forgetHistories ∈ GT := ⟨gt_of 285 (by decide +kernel) rfl, gt_sel (q := (yX7_forgetHistories, nF 7)) 2 (by decide +kernel)⟩
abbrev eX7_reckonHistories : EV := (yX7_reckonHistories, cX7_reckonHistories, 1, none, rmOf 5 0 0)
theorem mfX7_reckonHistories : MF eX7_reckonHistories 0 := ⟨gt_of 410 (by decide +kernel) rfl, gt_of 1 (by decide +kernel) rfl, by decide +kernel, by decide +kernel, by decide +kernel⟩
theorem slX7_reckonHistories : Cond.instanceMethod yX7_reckonHistories ∈ GT ∧ Cond.selects yX7_reckonHistories.cls yX7_reckonHistories yX7_reckonHistories ∈ GT := ⟨gt_of 409 (by decide +kernel) rfl, gt_sel (q := (yX7_reckonHistories, nF 7)) 7 (by decide +kernel)⟩
abbrev eX7_reckonWithout : EV := (yX7_reckonWithout, cX7_reckonWithout, 2, none, rmOf 5 0 0)
theorem mfX7_reckonWithout : MF eX7_reckonWithout 0 := ⟨gt_of 491 (by decide +kernel) rfl, gt_of 1 (by decide +kernel) rfl, by decide +kernel, by decide +kernel, by decide +kernel⟩
theorem slX7_reckonWithout : Cond.instanceMethod yX7_reckonWithout ∈ GT ∧ Cond.selects yX7_reckonWithout.cls yX7_reckonWithout yX7_reckonWithout ∈ GT := ⟨gt_of 490 (by decide +kernel) rfl, gt_sel (q := (yX7_reckonWithout, nF 7)) 15 (by decide +kernel)⟩
abbrev eX7_prepareTelling : EV := (yX7_prepareTelling, cX7_prepareTelling, 1, none, rmOf 4 0 0)
theorem mfX7_prepareTelling : MF eX7_prepareTelling 0 := ⟨gt_of 499 (by decide +kernel) rfl, gt_of 1 (by decide +kernel) rfl, by decide +kernel, by decide +kernel, by decide +kernel⟩
theorem slX7_prepareTelling : Cond.instanceMethod yX7_prepareTelling ∈ GT ∧ Cond.selects yX7_prepareTelling.cls yX7_prepareTelling yX7_prepareTelling ∈ GT := ⟨gt_of 498 (by decide +kernel) rfl, gt_sel (q := (yX7_prepareTelling, nF 7)) 16 (by decide +kernel)⟩
abbrev eX7_areYears : EV := (yX7_areYears, cX7_areYears, 2, (some .boolean), rmOf 0 0 0)
theorem mfX7_areYears : MF eX7_areYears 2 := ⟨gt_of 550 (by decide +kernel) rfl, gt_of 1 (by decide +kernel) rfl, by decide +kernel, by decide +kernel, by decide +kernel⟩
theorem slX7_areYears : Cond.static yX7_areYears ∈ GT := gt_of 549 (by decide +kernel) rfl
abbrev eX7_isBird : EV := (yX7_isBird, cX7_isBird, 1, (some .boolean), rmOf 0 0 0)
theorem mfX7_isBird : MF eX7_isBird 1 := ⟨gt_of 282 (by decide +kernel) rfl, gt_of 1 (by decide +kernel) rfl, by decide +kernel, by decide +kernel, by decide +kernel⟩
theorem slX7_isBird : Cond.static yX7_isBird ∈ GT := gt_of 281 (by decide +kernel) rfl
abbrev eX7_birdsWithSaying : EV := (yX7_birdsWithSaying, cX7_birdsWithSaying, 3, (some .int), rmOf 0 0 0)
theorem mfX7_birdsWithSaying : MF eX7_birdsWithSaying 1 := ⟨gt_of 502 (by decide +kernel) rfl, gt_of 1 (by decide +kernel) rfl, by decide +kernel, by decide +kernel, by decide +kernel⟩
theorem slX7_birdsWithSaying : Cond.static yX7_birdsWithSaying ∈ GT := gt_of 501 (by decide +kernel) rfl
abbrev eX7_power : EV := (yX7_power, cX7_power, 1, (some .int), rmOf 0 0 0)
theorem mfX7_power : MF eX7_power 1 := ⟨gt_of 44 (by decide +kernel) rfl, gt_of 1 (by decide +kernel) rfl, by decide +kernel, by decide +kernel, by decide +kernel⟩
theorem slX7_power : Cond.static yX7_power ∈ GT := gt_of 43 (by decide +kernel) rfl
abbrev eX7_firstOf : EV := (yX7_firstOf, cX7_firstOf, 1, (some .int), rmOf 0 0 0)
theorem mfX7_firstOf : MF eX7_firstOf 1 := ⟨gt_of 35 (by decide +kernel) rfl, gt_of 1 (by decide +kernel) rfl, by decide +kernel, by decide +kernel, by decide +kernel⟩
theorem slX7_firstOf : Cond.static yX7_firstOf ∈ GT := gt_of 34 (by decide +kernel) rfl
abbrev eX7_lengthOf : EV := (yX7_lengthOf, cX7_lengthOf, 2, (some .int), rmOf 1 0 0)
theorem mfX7_lengthOf : MF eX7_lengthOf 1 := ⟨gt_of 32 (by decide +kernel) rfl, gt_of 1 (by decide +kernel) rfl, by decide +kernel, by decide +kernel, by decide +kernel⟩
theorem slX7_lengthOf : Cond.static yX7_lengthOf ∈ GT := gt_of 31 (by decide +kernel) rfl
abbrev eX7_wordOf : EV := (yX7_wordOf, cX7_wordOf, 4, (some .int), rmOf 2 0 0)
theorem mfX7_wordOf : MF eX7_wordOf 2 := ⟨gt_of 393 (by decide +kernel) rfl, gt_of 1 (by decide +kernel) rfl, by decide +kernel, by decide +kernel, by decide +kernel⟩
theorem slX7_wordOf : Cond.static yX7_wordOf ∈ GT := gt_of 392 (by decide +kernel) rfl
abbrev eX7_commonDivisor : EV := (yX7_commonDivisor, cX7_commonDivisor, 7, (some .long), rmOf 0 0 0)
theorem mfX7_commonDivisor : MF eX7_commonDivisor 2 := ⟨gt_of 475 (by decide +kernel) rfl, gt_of 1 (by decide +kernel) rfl, by decide +kernel, by decide +kernel, by decide +kernel⟩
theorem slX7_commonDivisor : Cond.static yX7_commonDivisor ∈ GT := gt_of 474 (by decide +kernel) rfl
abbrev eX8_init : EV := (yX8_init, cX8_init, 2, none, rmOf 1 18 61484)
theorem mfX8_init : MF eX8_init 0 := ⟨gt_of 594 (by decide +kernel) rfl, gt_of 9 (by decide +kernel) rfl, by decide +kernel, by decide +kernel, by decide +kernel⟩
theorem slX8_init : Cond.instanceMethod yX8_init ∈ GT := gt_of 593 (by decide +kernel) rfl
abbrev eX8_in : EV := (yX8_in, cX8_in, 6, (some .boolean), rmOf 0 0 0)
theorem mfX8_in : MF eX8_in 3 := ⟨gt_of 694 (by decide +kernel) rfl, gt_of 9 (by decide +kernel) rfl, by decide +kernel, by decide +kernel, by decide +kernel⟩
theorem slX8_in : Cond.static yX8_in ∈ GT := gt_of 693 (by decide +kernel) rfl
abbrev eX8_isBird : EV := (yX8_isBird, cX8_isBird, 1, (some .boolean), rmOf 1 0 0)
theorem mfX8_isBird : MF eX8_isBird 1 := ⟨gt_of 690 (by decide +kernel) rfl, gt_of 9 (by decide +kernel) rfl, by decide +kernel, by decide +kernel, by decide +kernel⟩
theorem slX8_isBird : Cond.static yX8_isBird ∈ GT := gt_of 689 (by decide +kernel) rfl
abbrev eX8_ones : EV := (yX8_ones, cX8_ones, 3, (some .int), rmOf 0 0 0)
theorem mfX8_ones : MF eX8_ones 1 := ⟨gt_of 889 (by decide +kernel) rfl, gt_of 9 (by decide +kernel) rfl, by decide +kernel, by decide +kernel, by decide +kernel⟩
theorem slX8_ones : Cond.static yX8_ones ∈ GT := gt_of 888 (by decide +kernel) rfl
abbrev eX8_firstOf : EV := (yX8_firstOf, cX8_firstOf, 4, (some .int), rmOf 0 0 0)
theorem mfX8_firstOf : MF eX8_firstOf 1 := ⟨gt_of 741 (by decide +kernel) rfl, gt_of 9 (by decide +kernel) rfl, by decide +kernel, by decide +kernel, by decide +kernel⟩
theorem slX8_firstOf : Cond.static yX8_firstOf ∈ GT := gt_of 740 (by decide +kernel) rfl
abbrev eX8_wordsOf : EV := (yX8_wordsOf, cX8_wordsOf, 2, (some .int), rmOf 1 0 0)
theorem mfX8_wordsOf : MF eX8_wordsOf 1 := ⟨gt_of 753 (by decide +kernel) rfl, gt_of 9 (by decide +kernel) rfl, by decide +kernel, by decide +kernel, by decide +kernel⟩
theorem slX8_wordsOf : Cond.static yX8_wordsOf ∈ GT := gt_of 752 (by decide +kernel) rfl
abbrev eX8_lay : EV := (yX8_lay, cX8_lay, 4, none, rmOf 2 0 0)
theorem mfX8_lay : MF eX8_lay 1 := ⟨gt_of 750 (by decide +kernel) rfl, gt_of 9 (by decide +kernel) rfl, by decide +kernel, by decide +kernel, by decide +kernel⟩
theorem slX8_lay : Cond.instanceMethod yX8_lay ∈ GT ∧ Cond.selects yX8_lay.cls yX8_lay yX8_lay ∈ GT := ⟨gt_of 749 (by decide +kernel) rfl, gt_sel (q := (yX8_lay, nF 8)) 26 (by decide +kernel)⟩
abbrev eX8_signAt : EV := (yX8_signAt, cX8_signAt, 3, (some .int), rmOf 3 0 0)
theorem mfX8_signAt : MF eX8_signAt 2 := ⟨gt_of 793 (by decide +kernel) rfl, gt_of 9 (by decide +kernel) rfl, by decide +kernel, by decide +kernel, by decide +kernel⟩
theorem slX8_signAt : Cond.instanceMethod yX8_signAt ∈ GT ∧ Cond.selects yX8_signAt.cls yX8_signAt yX8_signAt ∈ GT := ⟨gt_of 792 (by decide +kernel) rfl, gt_sel (q := (yX8_signAt, nF 8)) 33 (by decide +kernel)⟩
abbrev eX8_numberWith : EV := (yX8_numberWith, cX8_numberWith, 8, (some .int), rmOf 1 0 0)
theorem mfX8_numberWith : MF eX8_numberWith 3 := ⟨gt_of 757 (by decide +kernel) rfl, gt_of 9 (by decide +kernel) rfl, by decide +kernel, by decide +kernel, by decide +kernel⟩
theorem slX8_numberWith : Cond.instanceMethod yX8_numberWith ∈ GT ∧ Cond.selects yX8_numberWith.cls yX8_numberWith yX8_numberWith ∈ GT := ⟨gt_of 756 (by decide +kernel) rfl, gt_sel (q := (yX8_numberWith, nF 8)) 27 (by decide +kernel)⟩
abbrev eX8_addSlip : EV := (yX8_addSlip, cX8_addSlip, 5, none, rmOf 0 0 0)
theorem mfX8_addSlip : MF eX8_addSlip 2 := ⟨gt_of 761 (by decide +kernel) rfl, gt_of 9 (by decide +kernel) rfl, by decide +kernel, by decide +kernel, by decide +kernel⟩
theorem slX8_addSlip : Cond.instanceMethod yX8_addSlip ∈ GT ∧ Cond.selects yX8_addSlip.cls yX8_addSlip yX8_addSlip ∈ GT := ⟨gt_of 760 (by decide +kernel) rfl, gt_sel (q := (yX8_addSlip, nF 8)) 28 (by decide +kernel)⟩
abbrev eX8_findSlips : EV := (yX8_findSlips, cX8_findSlips, 6, none, rmOf 3 0 0)
theorem mfX8_findSlips : MF eX8_findSlips 2 := ⟨gt_of 745 (by decide +kernel) rfl, gt_of 9 (by decide +kernel) rfl, by decide +kernel, by decide +kernel, by decide +kernel⟩
theorem slX8_findSlips : Cond.instanceMethod yX8_findSlips ∈ GT ∧ Cond.selects yX8_findSlips.cls yX8_findSlips yX8_findSlips ∈ GT := ⟨gt_of 744 (by decide +kernel) rfl, gt_sel (q := (yX8_findSlips, nF 8)) 25 (by decide +kernel)⟩
abbrev eX8_sort : EV := (yX8_sort, cX8_sort, 4, (some .int), rmOf 2 0 0)
theorem mfX8_sort : MF eX8_sort 2 := ⟨gt_of 687 (by decide +kernel) rfl, gt_of 9 (by decide +kernel) rfl, by decide +kernel, by decide +kernel, by decide +kernel⟩
theorem slX8_sort : Cond.instanceMethod yX8_sort ∈ GT ∧ Cond.selects yX8_sort.cls yX8_sort yX8_sort ∈ GT := ⟨gt_of 685 (by decide +kernel) rfl, gt_of 686 (by decide +kernel) rfl⟩
abbrev eX8_say : EV := (yX8_say, cX8_say, 2, (some .int), rmOf 1 0 0)
theorem mfX8_say : MF eX8_say 1 := ⟨gt_of 699 (by decide +kernel) rfl, gt_of 9 (by decide +kernel) rfl, by decide +kernel, by decide +kernel, by decide +kernel⟩
theorem slX8_say : Cond.instanceMethod yX8_say ∈ GT ∧ Cond.selects yX8_say.cls yX8_say yX8_say ∈ GT := ⟨gt_of 697 (by decide +kernel) rfl, gt_of 698 (by decide +kernel) rfl⟩
abbrev eX8_wipe : EV := (yX8_wipe, cX8_wipe, 2, (some .int), rmOf 0 0 0)
theorem mfX8_wipe : MF eX8_wipe 0 := ⟨gt_of 705 (by decide +kernel) rfl, gt_of 9 (by decide +kernel) rfl, by decide +kernel, by decide +kernel, by decide +kernel⟩
theorem slX8_wipe : Cond.instanceMethod yX8_wipe ∈ GT ∧ Cond.selects yX8_wipe.cls yX8_wipe yX8_wipe ∈ GT := ⟨gt_of 703 (by decide +kernel) rfl, gt_of 704 (by decide +kernel) rfl⟩
abbrev eX8_isLetter : EV := (yX8_isLetter, cX8_isLetter, 1, (some .boolean), rmOf 1 0 0)
theorem mfX8_isLetter : MF eX8_isLetter 1 := ⟨gt_of 716 (by decide +kernel) rfl, gt_of 9 (by decide +kernel) rfl, by decide +kernel, by decide +kernel, by decide +kernel⟩
theorem slX8_isLetter : Cond.static yX8_isLetter ∈ GT := gt_of 715 (by decide +kernel) rfl
abbrev eX8_faultOfDays : EV := (yX8_faultOfDays, cX8_faultOfDays, 5, (some .int), rmOf 2 0 0)
theorem mfX8_faultOfDays : MF eX8_faultOfDays 0 := ⟨gt_of 713 (by decide +kernel) rfl, gt_of 9 (by decide +kernel) rfl, by decide +kernel, by decide +kernel, by decide +kernel⟩
theorem slX8_faultOfDays : Cond.instanceMethod yX8_faultOfDays ∈ GT ∧ Cond.selects yX8_faultOfDays.cls yX8_faultOfDays yX8_faultOfDays ∈ GT := ⟨gt_of 712 (by decide +kernel) rfl, gt_sel (q := (yX8_faultOfDays, nF 8)) 22 (by decide +kernel)⟩
abbrev eX8_faultOfSaying : EV := (yX8_faultOfSaying, cX8_faultOfSaying, 2, (some .int), rmOf 1 0 0)
theorem mfX8_faultOfSaying : MF eX8_faultOfSaying 0 := ⟨gt_of 724 (by decide +kernel) rfl, gt_of 9 (by decide +kernel) rfl, by decide +kernel, by decide +kernel, by decide +kernel⟩
theorem slX8_faultOfSaying : Cond.instanceMethod yX8_faultOfSaying ∈ GT ∧ Cond.selects yX8_faultOfSaying.cls yX8_faultOfSaying yX8_faultOfSaying ∈ GT := ⟨gt_of 723 (by decide +kernel) rfl, gt_sel (q := (yX8_faultOfSaying, nF 8)) 23 (by decide +kernel)⟩
abbrev eX8_fault : EV := (yX8_fault, cX8_fault, 2, (some .int), rmOf 3 0 0)
theorem mfX8_fault : MF eX8_fault 1 := ⟨gt_of 709 (by decide +kernel) rfl, gt_of 9 (by decide +kernel) rfl, by decide +kernel, by decide +kernel, by decide +kernel⟩
theorem slX8_fault : Cond.instanceMethod yX8_fault ∈ GT ∧ Cond.selects yX8_fault.cls yX8_fault yX8_fault ∈ GT := ⟨gt_of 707 (by decide +kernel) rfl, gt_of 708 (by decide +kernel) rfl⟩
abbrev eX8_days : EV := (yX8_days, cX8_days, 3, (some .int), rmOf 3 0 0)
theorem mfX8_days : MF eX8_days 0 := ⟨gt_of 730 (by decide +kernel) rfl, gt_of 9 (by decide +kernel) rfl, by decide +kernel, by decide +kernel, by decide +kernel⟩
theorem slX8_days : Cond.instanceMethod yX8_days ∈ GT ∧ Cond.selects yX8_days.cls yX8_days yX8_days ∈ GT := ⟨gt_of 728 (by decide +kernel) rfl, gt_of 729 (by decide +kernel) rfl⟩
abbrev eX8_padSaying : EV := (yX8_padSaying, cX8_padSaying, 3, (some .int), rmOf 1 0 0)
theorem mfX8_padSaying : MF eX8_padSaying 0 := ⟨gt_of 738 (by decide +kernel) rfl, gt_of 9 (by decide +kernel) rfl, by decide +kernel, by decide +kernel, by decide +kernel⟩
theorem slX8_padSaying : Cond.instanceMethod yX8_padSaying ∈ GT ∧ Cond.selects yX8_padSaying.cls yX8_padSaying yX8_padSaying ∈ GT := ⟨gt_of 737 (by decide +kernel) rfl, gt_sel (q := (yX8_padSaying, nF 8)) 24 (by decide +kernel)⟩
abbrev eX8_slips : EV := (yX8_slips, cX8_slips, 3, (some .int), rmOf 4 0 0)
theorem mfX8_slips : MF eX8_slips 2 := ⟨gt_of 734 (by decide +kernel) rfl, gt_of 9 (by decide +kernel) rfl, by decide +kernel, by decide +kernel, by decide +kernel⟩
theorem slX8_slips : Cond.instanceMethod yX8_slips ∈ GT ∧ Cond.selects yX8_slips.cls yX8_slips yX8_slips ∈ GT := ⟨gt_of 732 (by decide +kernel) rfl, gt_of 733 (by decide +kernel) rfl⟩
abbrev eX8_bargain : EV := (yX8_bargain, cX8_bargain, 1, (some .int), rmOf 2 0 0)
theorem mfX8_bargain : MF eX8_bargain 0 := ⟨gt_of 765 (by decide +kernel) rfl, gt_of 9 (by decide +kernel) rfl, by decide +kernel, by decide +kernel, by decide +kernel⟩
theorem slX8_bargain : Cond.instanceMethod yX8_bargain ∈ GT ∧ Cond.selects yX8_bargain.cls yX8_bargain yX8_bargain ∈ GT := ⟨gt_of 763 (by decide +kernel) rfl, gt_of 764 (by decide +kernel) rfl⟩
abbrev eX8_forget : EV := (yX8_forget, cX8_forget, 2, none, rmOf 0 0 0)
theorem mfX8_forget : MF eX8_forget 0 := ⟨gt_of 777 (by decide +kernel) rfl, gt_of 9 (by decide +kernel) rfl, by decide +kernel, by decide +kernel, by decide +kernel⟩
theorem slX8_forget : Cond.instanceMethod yX8_forget ∈ GT ∧ Cond.selects yX8_forget.cls yX8_forget yX8_forget ∈ GT := ⟨gt_of 776 (by decide +kernel) rfl, gt_sel (q := (yX8_forget, nF 8)) 30 (by decide +kernel)⟩
abbrev eX8_hears : EV := (yX8_hears, cX8_hears, 5, (some .boolean), rmOf 0 0 0)
theorem mfX8_hears : MF eX8_hears 2 := ⟨gt_of 785 (by decide +kernel) rfl, gt_of 9 (by decide +kernel) rfl, by decide +kernel, by decide +kernel, by decide +kernel⟩
theorem slX8_hears : Cond.instanceMethod yX8_hears ∈ GT ∧ Cond.selects yX8_hears.cls yX8_hears yX8_hears ∈ GT := ⟨gt_of 784 (by decide +kernel) rfl, gt_sel (q := (yX8_hears, nF 8)) 32 (by decide +kernel)⟩
abbrev eX8_go : EV := (yX8_go, cX8_go, 6, none, rmOf 4 0 0)
theorem mfX8_go : MF eX8_go 4 := ⟨gt_of 781 (by decide +kernel) rfl, gt_of 9 (by decide +kernel) rfl, by decide +kernel, by decide +kernel, by decide +kernel⟩
theorem slX8_go : Cond.instanceMethod yX8_go ∈ GT ∧ Cond.selects yX8_go.cls yX8_go yX8_go ∈ GT := ⟨gt_of 780 (by decide +kernel) rfl, gt_sel (q := (yX8_go, nF 8)) 31 (by decide +kernel)⟩
abbrev eX8_goDay : EV := (yX8_goDay, cX8_goDay, 5, none, rmOf 5 0 0)
theorem mfX8_goDay : MF eX8_goDay 3 := ⟨gt_of 773 (by decide +kernel) rfl, gt_of 9 (by decide +kernel) rfl, by decide +kernel, by decide +kernel, by decide +kernel⟩
theorem slX8_goDay : Cond.instanceMethod yX8_goDay ∈ GT ∧ Cond.selects yX8_goDay.cls yX8_goDay yX8_goDay ∈ GT := ⟨gt_of 772 (by decide +kernel) rfl, gt_sel (q := (yX8_goDay, nF 8)) 29 (by decide +kernel)⟩
abbrev eX8_part : EV := (yX8_part, cX8_part, 3, (some .int), rmOf 6 0 0)
theorem mfX8_part : MF eX8_part 2 := ⟨gt_of 769 (by decide +kernel) rfl, gt_of 9 (by decide +kernel) rfl, by decide +kernel, by decide +kernel, by decide +kernel⟩
theorem slX8_part : Cond.instanceMethod yX8_part ∈ GT ∧ Cond.selects yX8_part.cls yX8_part yX8_part ∈ GT := ⟨gt_of 767 (by decide +kernel) rfl, gt_of 768 (by decide +kernel) rfl⟩
abbrev eX8_says : EV := (yX8_says, cX8_says, 3, (some .int), rmOf 6 0 0)
theorem mfX8_says : MF eX8_says 2 := ⟨gt_of 789 (by decide +kernel) rfl, gt_of 9 (by decide +kernel) rfl, by decide +kernel, by decide +kernel, by decide +kernel⟩
theorem slX8_says : Cond.instanceMethod yX8_says ∈ GT ∧ Cond.selects yX8_says.cls yX8_says yX8_says ∈ GT := ⟨gt_of 787 (by decide +kernel) rfl, gt_of 788 (by decide +kernel) rfl⟩
abbrev eX8_testify : EV := (yX8_testify, cX8_testify, 2, (some .int), rmOf 2 0 0)
theorem mfX8_testify : MF eX8_testify 1 := ⟨gt_of 797 (by decide +kernel) rfl, gt_of 9 (by decide +kernel) rfl, by decide +kernel, by decide +kernel, by decide +kernel⟩
theorem slX8_testify : Cond.instanceMethod yX8_testify ∈ GT ∧ Cond.selects yX8_testify.cls yX8_testify yX8_testify ∈ GT := ⟨gt_of 795 (by decide +kernel) rfl, gt_of 796 (by decide +kernel) rfl⟩
abbrev eX8_unsay : EV := (yX8_unsay, cX8_unsay, 3, (some .int), rmOf 2 0 0)
theorem mfX8_unsay : MF eX8_unsay 1 := ⟨gt_of 801 (by decide +kernel) rfl, gt_of 9 (by decide +kernel) rfl, by decide +kernel, by decide +kernel, by decide +kernel⟩
theorem slX8_unsay : Cond.instanceMethod yX8_unsay ∈ GT ∧ Cond.selects yX8_unsay.cls yX8_unsay yX8_unsay ∈ GT := ⟨gt_of 799 (by decide +kernel) rfl, gt_of 800 (by decide +kernel) rfl⟩
abbrev eX8_at : EV := (yX8_at, cX8_at, 2, (some .int), rmOf 0 0 0)
theorem mfX8_at : MF eX8_at 2 := ⟨gt_of 816 (by decide +kernel) rfl, gt_of 9 (by decide +kernel) rfl, by decide +kernel, by decide +kernel, by decide +kernel⟩
theorem slX8_at : Cond.static yX8_at ∈ GT := gt_of 815 (by decide +kernel) rfl
abbrev eX8_sourceOf : EV := (yX8_sourceOf, cX8_sourceOf, 3, (some .int), rmOf 0 0 0)
theorem mfX8_sourceOf : MF eX8_sourceOf 1 := ⟨gt_of 824 (by decide +kernel) rfl, gt_of 9 (by decide +kernel) rfl, by decide +kernel, by decide +kernel, by decide +kernel⟩
theorem slX8_sourceOf : Cond.instanceMethod yX8_sourceOf ∈ GT ∧ Cond.selects yX8_sourceOf.cls yX8_sourceOf yX8_sourceOf ∈ GT := ⟨gt_of 823 (by decide +kernel) rfl, gt_sel (q := (yX8_sourceOf, nF 8)) 37 (by decide +kernel)⟩
abbrev eX8_isLast : EV := (yX8_isLast, cX8_isLast, 4, (some .boolean), rmOf 0 0 0)
theorem mfX8_isLast : MF eX8_isLast 1 := ⟨gt_of 813 (by decide +kernel) rfl, gt_of 9 (by decide +kernel) rfl, by decide +kernel, by decide +kernel, by decide +kernel⟩
theorem slX8_isLast : Cond.instanceMethod yX8_isLast ∈ GT ∧ Cond.selects yX8_isLast.cls yX8_isLast yX8_isLast ∈ GT := ⟨gt_of 812 (by decide +kernel) rfl, gt_sel (q := (yX8_isLast, nF 8)) 35 (by decide +kernel)⟩
abbrev eX8_hang : EV := (yX8_hang, cX8_hang, 9, none, rmOf 4 0 0)
theorem mfX8_hang : MF eX8_hang 1 := ⟨gt_of 820 (by decide +kernel) rfl, gt_of 9 (by decide +kernel) rfl, by decide +kernel, by decide +kernel, by decide +kernel⟩
theorem slX8_hang : Cond.instanceMethod yX8_hang ∈ GT ∧ Cond.selects yX8_hang.cls yX8_hang yX8_hang ∈ GT := ⟨gt_of 819 (by decide +kernel) rfl, gt_sel (q := (yX8_hang, nF 8)) 36 (by decide +kernel)⟩
abbrev eX8_findCosts : EV := (yX8_findCosts, cX8_findCosts, 7, none, rmOf 6 0 0)
theorem mfX8_findCosts : MF eX8_findCosts 1 := ⟨gt_of 809 (by decide +kernel) rfl, gt_of 9 (by decide +kernel) rfl, by decide +kernel, by decide +kernel, by decide +kernel⟩
theorem slX8_findCosts : Cond.instanceMethod yX8_findCosts ∈ GT ∧ Cond.selects yX8_findCosts.cls yX8_findCosts yX8_findCosts ∈ GT := ⟨gt_of 808 (by decide +kernel) rfl, gt_sel (q := (yX8_findCosts, nF 8)) 34 (by decide +kernel)⟩
abbrev eX8_costOf : EV := (yX8_costOf, cX8_costOf, 3, (some .int), rmOf 1 0 0)
theorem mfX8_costOf : MF eX8_costOf 1 := ⟨gt_of 828 (by decide +kernel) rfl, gt_of 9 (by decide +kernel) rfl, by decide +kernel, by decide +kernel, by decide +kernel⟩
theorem slX8_costOf : Cond.instanceMethod yX8_costOf ∈ GT ∧ Cond.selects yX8_costOf.cls yX8_costOf yX8_costOf ∈ GT := ⟨gt_of 827 (by decide +kernel) rfl, gt_sel (q := (yX8_costOf, nF 8)) 38 (by decide +kernel)⟩
abbrev eX8_leastCost : EV := (yX8_leastCost, cX8_leastCost, 4, (some .int), rmOf 2 0 0)
theorem mfX8_leastCost : MF eX8_leastCost 0 := ⟨gt_of 839 (by decide +kernel) rfl, gt_of 9 (by decide +kernel) rfl, by decide +kernel, by decide +kernel, by decide +kernel⟩
theorem slX8_leastCost : Cond.instanceMethod yX8_leastCost ∈ GT ∧ Cond.selects yX8_leastCost.cls yX8_leastCost yX8_leastCost ∈ GT := ⟨gt_of 838 (by decide +kernel) rfl, gt_sel (q := (yX8_leastCost, nF 8)) 39 (by decide +kernel)⟩
abbrev eX8_cost : EV := (yX8_cost, cX8_cost, 1, (some .int), rmOf 7 0 0)
theorem mfX8_cost : MF eX8_cost 0 := ⟨gt_of 805 (by decide +kernel) rfl, gt_of 9 (by decide +kernel) rfl, by decide +kernel, by decide +kernel, by decide +kernel⟩
theorem slX8_cost : Cond.instanceMethod yX8_cost ∈ GT ∧ Cond.selects yX8_cost.cls yX8_cost yX8_cost ∈ GT := ⟨gt_of 803 (by decide +kernel) rfl, gt_of 804 (by decide +kernel) rfl⟩
abbrev eX8_likely : EV := (yX8_likely, cX8_likely, 6, (some .int), rmOf 7 0 0)
theorem mfX8_likely : MF eX8_likely 1 := ⟨gt_of 832 (by decide +kernel) rfl, gt_of 9 (by decide +kernel) rfl, by decide +kernel, by decide +kernel, by decide +kernel⟩
theorem slX8_likely : Cond.instanceMethod yX8_likely ∈ GT ∧ Cond.selects yX8_likely.cls yX8_likely yX8_likely ∈ GT := ⟨gt_of 830 (by decide +kernel) rfl, gt_of 831 (by decide +kernel) rfl⟩
abbrev eX8_waysOf : EV := (yX8_waysOf, cX8_waysOf, 3, (some .long), rmOf 2 0 0)
theorem mfX8_waysOf : MF eX8_waysOf 2 := ⟨gt_of 848 (by decide +kernel) rfl, gt_of 9 (by decide +kernel) rfl, by decide +kernel, by decide +kernel, by decide +kernel⟩
theorem slX8_waysOf : Cond.instanceMethod yX8_waysOf ∈ GT ∧ Cond.selects yX8_waysOf.cls yX8_waysOf yX8_waysOf ∈ GT := ⟨gt_of 847 (by decide +kernel) rfl, gt_sel (q := (yX8_waysOf, nF 8)) 40 (by decide +kernel)⟩
abbrev eX8_ways : EV := (yX8_ways, cX8_ways, 1, (some .long), rmOf 7 0 0)
theorem mfX8_ways : MF eX8_ways 0 := ⟨gt_of 843 (by decide +kernel) rfl, gt_of 9 (by decide +kernel) rfl, by decide +kernel, by decide +kernel, by decide +kernel⟩
theorem slX8_ways : Cond.instanceMethod yX8_ways ∈ GT ∧ Cond.selects yX8_ways.cls yX8_ways yX8_ways ∈ GT := ⟨gt_of 841 (by decide +kernel) rfl, gt_of 842 (by decide +kernel) rfl⟩
abbrev eX8_odds : EV := (yX8_odds, cX8_odds, 13, (some .long), rmOf 7 0 0)
theorem mfX8_odds : MF eX8_odds 1 := ⟨gt_of 852 (by decide +kernel) rfl, gt_of 9 (by decide +kernel) rfl, by decide +kernel, by decide +kernel, by decide +kernel⟩
theorem slX8_odds : Cond.instanceMethod yX8_odds ∈ GT ∧ Cond.selects yX8_odds.cls yX8_odds yX8_odds ∈ GT := ⟨gt_of 850 (by decide +kernel) rfl, gt_of 851 (by decide +kernel) rfl⟩
abbrev eX8_canBeBy : EV := (yX8_canBeBy, cX8_canBeBy, 4, (some .int), rmOf 2 0 0)
theorem mfX8_canBeBy : MF eX8_canBeBy 1 := ⟨gt_of 863 (by decide +kernel) rfl, gt_of 9 (by decide +kernel) rfl, by decide +kernel, by decide +kernel, by decide +kernel⟩
theorem slX8_canBeBy : Cond.instanceMethod yX8_canBeBy ∈ GT ∧ Cond.selects yX8_canBeBy.cls yX8_canBeBy yX8_canBeBy ∈ GT := ⟨gt_of 862 (by decide +kernel) rfl, gt_sel (q := (yX8_canBeBy, nF 8)) 41 (by decide +kernel)⟩
abbrev eX8_canBe : EV := (yX8_canBe, cX8_canBe, 2, (some .int), rmOf 7 0 0)
theorem mfX8_canBe : MF eX8_canBe 1 := ⟨gt_of 858 (by decide +kernel) rfl, gt_of 9 (by decide +kernel) rfl, by decide +kernel, by decide +kernel, by decide +kernel⟩
theorem slX8_canBe : Cond.instanceMethod yX8_canBe ∈ GT ∧ Cond.selects yX8_canBe.cls yX8_canBe yX8_canBe ∈ GT := ⟨gt_of 856 (by decide +kernel) rfl, gt_of 857 (by decide +kernel) rfl⟩
abbrev eX8_taught : EV := (yX8_taught, cX8_taught, 4, (some .int), rmOf 7 0 0)
theorem mfX8_taught : MF eX8_taught 1 := ⟨gt_of 867 (by decide +kernel) rfl, gt_of 9 (by decide +kernel) rfl, by decide +kernel, by decide +kernel, by decide +kernel⟩
theorem slX8_taught : Cond.instanceMethod yX8_taught ∈ GT ∧ Cond.selects yX8_taught.cls yX8_taught yX8_taught ∈ GT := ⟨gt_of 865 (by decide +kernel) rfl, gt_of 866 (by decide +kernel) rfl⟩
abbrev eX8_keepRow : EV := (yX8_keepRow, cX8_keepRow, 5, none, rmOf 0 0 0)
theorem mfX8_keepRow : MF eX8_keepRow 1 := ⟨gt_of 882 (by decide +kernel) rfl, gt_of 9 (by decide +kernel) rfl, by decide +kernel, by decide +kernel, by decide +kernel⟩
theorem slX8_keepRow : Cond.instanceMethod yX8_keepRow ∈ GT ∧ Cond.selects yX8_keepRow.cls yX8_keepRow yX8_keepRow ∈ GT := ⟨gt_of 881 (by decide +kernel) rfl, gt_sel (q := (yX8_keepRow, nF 8)) 43 (by decide +kernel)⟩
abbrev eX8_manyOf : EV := (yX8_manyOf, cX8_manyOf, 1, (some .int), rmOf 0 0 0)
theorem mfX8_manyOf : MF eX8_manyOf 1 := ⟨gt_of 878 (by decide +kernel) rfl, gt_of 9 (by decide +kernel) rfl, by decide +kernel, by decide +kernel, by decide +kernel⟩
theorem slX8_manyOf : Cond.static yX8_manyOf ∈ GT := gt_of 877 (by decide +kernel) rfl
abbrev eX8_findRows : EV := (yX8_findRows, cX8_findRows, 7, none, rmOf 6 0 0)
theorem mfX8_findRows : MF eX8_findRows 1 := ⟨gt_of 875 (by decide +kernel) rfl, gt_of 9 (by decide +kernel) rfl, by decide +kernel, by decide +kernel, by decide +kernel⟩
theorem slX8_findRows : Cond.instanceMethod yX8_findRows ∈ GT ∧ Cond.selects yX8_findRows.cls yX8_findRows yX8_findRows ∈ GT := ⟨gt_of 874 (by decide +kernel) rfl, gt_sel (q := (yX8_findRows, nF 8)) 42 (by decide +kernel)⟩
abbrev eX8_slipsAt : EV := (yX8_slipsAt, cX8_slipsAt, 4, (some .int), rmOf 5 0 0)
theorem mfX8_slipsAt : MF eX8_slipsAt 2 := ⟨gt_of 886 (by decide +kernel) rfl, gt_of 9 (by decide +kernel) rfl, by decide +kernel, by decide +kernel, by decide +kernel⟩
theorem slX8_slipsAt : Cond.instanceMethod yX8_slipsAt ∈ GT ∧ Cond.selects yX8_slipsAt.cls yX8_slipsAt yX8_slipsAt ∈ GT := ⟨gt_of 885 (by decide +kernel) rfl, gt_sel (q := (yX8_slipsAt, nF 8)) 44 (by decide +kernel)⟩
abbrev eX8_maskOf : EV := (yX8_maskOf, cX8_maskOf, 4, (some .long), rmOf 0 0 0)
theorem mfX8_maskOf : MF eX8_maskOf 1 := ⟨gt_of 896 (by decide +kernel) rfl, gt_of 9 (by decide +kernel) rfl, by decide +kernel, by decide +kernel, by decide +kernel⟩
theorem slX8_maskOf : Cond.static yX8_maskOf ∈ GT := gt_of 895 (by decide +kernel) rfl
abbrev eX8_doubtful : EV := (yX8_doubtful, cX8_doubtful, 8, (some .int), rmOf 1 0 0)
theorem mfX8_doubtful : MF eX8_doubtful 1 := ⟨gt_of 893 (by decide +kernel) rfl, gt_of 9 (by decide +kernel) rfl, by decide +kernel, by decide +kernel, by decide +kernel⟩
theorem slX8_doubtful : Cond.instanceMethod yX8_doubtful ∈ GT ∧ Cond.selects yX8_doubtful.cls yX8_doubtful yX8_doubtful ∈ GT := ⟨gt_of 892 (by decide +kernel) rfl, gt_sel (q := (yX8_doubtful, nF 8)) 45 (by decide +kernel)⟩
abbrev eX8_few : EV := (yX8_few, cX8_few, 5, (some .int), rmOf 7 0 0)
theorem mfX8_few : MF eX8_few 1 := ⟨gt_of 871 (by decide +kernel) rfl, gt_of 9 (by decide +kernel) rfl, by decide +kernel, by decide +kernel, by decide +kernel⟩
theorem slX8_few : Cond.instanceMethod yX8_few ∈ GT ∧ Cond.selects yX8_few.cls yX8_few yX8_few ∈ GT := ⟨gt_of 869 (by decide +kernel) rfl, gt_of 870 (by decide +kernel) rfl⟩
abbrev eX8_doubt : EV := (yX8_doubt, cX8_doubt, 3, (some .int), rmOf 7 0 0)
theorem mfX8_doubt : MF eX8_doubt 2 := ⟨gt_of 903 (by decide +kernel) rfl, gt_of 9 (by decide +kernel) rfl, by decide +kernel, by decide +kernel, by decide +kernel⟩
theorem slX8_doubt : Cond.instanceMethod yX8_doubt ∈ GT ∧ Cond.selects yX8_doubt.cls yX8_doubt yX8_doubt ∈ GT := ⟨gt_of 901 (by decide +kernel) rfl, gt_of 902 (by decide +kernel) rfl⟩
abbrev eX8_rare : EV := (yX8_rare, cX8_rare, 3, (some .int), rmOf 1 0 0)
theorem mfX8_rare : MF eX8_rare 1 := ⟨gt_of 908 (by decide +kernel) rfl, gt_of 9 (by decide +kernel) rfl, by decide +kernel, by decide +kernel, by decide +kernel⟩
theorem slX8_rare : Cond.instanceMethod yX8_rare ∈ GT ∧ Cond.selects yX8_rare.cls yX8_rare yX8_rare ∈ GT := ⟨gt_of 906 (by decide +kernel) rfl, gt_of 907 (by decide +kernel) rfl⟩
abbrev eX8_draw : EV := (yX8_draw, cX8_draw, 1, none, rmOf 0 0 0)
theorem mfX8_draw : MF eX8_draw 0 := ⟨gt_of 929 (by decide +kernel) rfl, gt_of 9 (by decide +kernel) rfl, by decide +kernel, by decide +kernel, by decide +kernel⟩
theorem slX8_draw : Cond.instanceMethod yX8_draw ∈ GT ∧ Cond.selects yX8_draw.cls yX8_draw yX8_draw ∈ GT := ⟨gt_of 928 (by decide +kernel) rfl, gt_sel (q := (yX8_draw, nF 8)) 48 (by decide +kernel)⟩
abbrev eX8_slipBy : EV := (yX8_slipBy, cX8_slipBy, 3, (some .int), rmOf 4 0 0)
theorem mfX8_slipBy : MF eX8_slipBy 2 := ⟨gt_of 925 (by decide +kernel) rfl, gt_of 9 (by decide +kernel) rfl, by decide +kernel, by decide +kernel, by decide +kernel⟩
theorem slX8_slipBy : Cond.instanceMethod yX8_slipBy ∈ GT ∧ Cond.selects yX8_slipBy.cls yX8_slipBy yX8_slipBy ∈ GT := ⟨gt_of 924 (by decide +kernel) rfl, gt_sel (q := (yX8_slipBy, nF 8)) 47 (by decide +kernel)⟩
abbrev eX8_passDay : EV := (yX8_passDay, cX8_passDay, 3, none, rmOf 5 0 0)
theorem mfX8_passDay : MF eX8_passDay 1 := ⟨gt_of 921 (by decide +kernel) rfl, gt_of 9 (by decide +kernel) rfl, by decide +kernel, by decide +kernel, by decide +kernel⟩
theorem slX8_passDay : Cond.instanceMethod yX8_passDay ∈ GT ∧ Cond.selects yX8_passDay.cls yX8_passDay yX8_passDay ∈ GT := ⟨gt_of 920 (by decide +kernel) rfl, gt_sel (q := (yX8_passDay, nF 8)) 46 (by decide +kernel)⟩
abbrev eX8_isSeed : EV := (yX8_isSeed, cX8_isSeed, 2, (some .boolean), rmOf 1 0 0)
theorem mfX8_isSeed : MF eX8_isSeed 2 := ⟨gt_of 915 (by decide +kernel) rfl, gt_of 9 (by decide +kernel) rfl, by decide +kernel, by decide +kernel, by decide +kernel⟩
theorem slX8_isSeed : Cond.static yX8_isSeed ∈ GT := gt_of 914 (by decide +kernel) rfl
abbrev eX8_years : EV := (yX8_years, cX8_years, 6, (some .int), rmOf 6 0 0)
theorem mfX8_years : MF eX8_years 4 := ⟨gt_of 912 (by decide +kernel) rfl, gt_of 9 (by decide +kernel) rfl, by decide +kernel, by decide +kernel, by decide +kernel⟩
theorem slX8_years : Cond.instanceMethod yX8_years ∈ GT ∧ Cond.selects yX8_years.cls yX8_years yX8_years ∈ GT := ⟨gt_of 910 (by decide +kernel) rfl, gt_of 911 (by decide +kernel) rfl⟩
abbrev eX8_lost : EV := (yX8_lost, cX8_lost, 5, (some .int), rmOf 6 0 0)
theorem mfX8_lost : MF eX8_lost 3 := ⟨gt_of 936 (by decide +kernel) rfl, gt_of 9 (by decide +kernel) rfl, by decide +kernel, by decide +kernel, by decide +kernel⟩
theorem slX8_lost : Cond.instanceMethod yX8_lost ∈ GT ∧ Cond.selects yX8_lost.cls yX8_lost yX8_lost ∈ GT := ⟨gt_of 934 (by decide +kernel) rfl, gt_of 935 (by decide +kernel) rfl⟩
abbrev eX8_pass : EV := (yX8_pass, cX8_pass, 3, (some .int), rmOf 0 0 0)
theorem mfX8_pass : MF eX8_pass 1 := ⟨gt_of 948 (by decide +kernel) rfl, gt_of 9 (by decide +kernel) rfl, by decide +kernel, by decide +kernel, by decide +kernel⟩
theorem slX8_pass : Cond.instanceMethod yX8_pass ∈ GT ∧ Cond.selects yX8_pass.cls yX8_pass yX8_pass ∈ GT := ⟨gt_of 947 (by decide +kernel) rfl, gt_sel (q := (yX8_pass, nF 8)) 50 (by decide +kernel)⟩
abbrev eX8_passAll : EV := (yX8_passAll, cX8_passAll, 2, none, rmOf 1 0 0)
theorem mfX8_passAll : MF eX8_passAll 0 := ⟨gt_of 944 (by decide +kernel) rfl, gt_of 9 (by decide +kernel) rfl, by decide +kernel, by decide +kernel, by decide +kernel⟩
theorem slX8_passAll : Cond.instanceMethod yX8_passAll ∈ GT ∧ Cond.selects yX8_passAll.cls yX8_passAll yX8_passAll ∈ GT := ⟨gt_of 943 (by decide +kernel) rfl, gt_sel (q := (yX8_passAll, nF 8)) 49 (by decide +kernel)⟩
abbrev eX8_image : EV := (yX8_image, cX8_image, 2, (some .int), rmOf 2 0 0)
theorem mfX8_image : MF eX8_image 1 := ⟨gt_of 940 (by decide +kernel) rfl, gt_of 9 (by decide +kernel) rfl, by decide +kernel, by decide +kernel, by decide +kernel⟩
theorem slX8_image : Cond.instanceMethod yX8_image ∈ GT ∧ Cond.selects yX8_image.cls yX8_image yX8_image ∈ GT := ⟨gt_of 938 (by decide +kernel) rfl, gt_of 939 (by decide +kernel) rfl⟩
abbrev eX8_restore : EV := (yX8_restore, cX8_restore, 2, (some .int), rmOf 2 0 0)
theorem mfX8_restore : MF eX8_restore 1 := ⟨gt_of 952 (by decide +kernel) rfl, gt_of 9 (by decide +kernel) rfl, by decide +kernel, by decide +kernel, by decide +kernel⟩
theorem slX8_restore : Cond.instanceMethod yX8_restore ∈ GT ∧ Cond.selects yX8_restore.cls yX8_restore yX8_restore ∈ GT := ⟨gt_of 950 (by decide +kernel) rfl, gt_of 951 (by decide +kernel) rfl⟩
abbrev eX8_testified : EV := (yX8_testified, cX8_testified, 3, (some .int), rmOf 0 0 0)
theorem mfX8_testified : MF eX8_testified 0 := ⟨gt_of 963 (by decide +kernel) rfl, gt_of 9 (by decide +kernel) rfl, by decide +kernel, by decide +kernel, by decide +kernel⟩
theorem slX8_testified : Cond.instanceMethod yX8_testified ∈ GT ∧ Cond.selects yX8_testified.cls yX8_testified yX8_testified ∈ GT := ⟨gt_of 962 (by decide +kernel) rfl, gt_sel (q := (yX8_testified, nF 8)) 51 (by decide +kernel)⟩
abbrev eX8_haveHeard : EV := (yX8_haveHeard, cX8_haveHeard, 3, (some .int), rmOf 6 0 0)
theorem mfX8_haveHeard : MF eX8_haveHeard 0 := ⟨gt_of 967 (by decide +kernel) rfl, gt_of 9 (by decide +kernel) rfl, by decide +kernel, by decide +kernel, by decide +kernel⟩
theorem slX8_haveHeard : Cond.instanceMethod yX8_haveHeard ∈ GT ∧ Cond.selects yX8_haveHeard.cls yX8_haveHeard yX8_haveHeard ∈ GT := ⟨gt_of 966 (by decide +kernel) rfl, gt_sel (q := (yX8_haveHeard, nF 8)) 52 (by decide +kernel)⟩
abbrev eX8_told : EV := (yX8_told, cX8_told, 2, (some .int), rmOf 7 0 0)
theorem mfX8_told : MF eX8_told 1 := ⟨gt_of 956 (by decide +kernel) rfl, gt_of 9 (by decide +kernel) rfl, by decide +kernel, by decide +kernel, by decide +kernel⟩
theorem slX8_told : Cond.instanceMethod yX8_told ∈ GT ∧ Cond.selects yX8_told.cls yX8_told yX8_told ∈ GT := ⟨gt_of 954 (by decide +kernel) rfl, gt_of 955 (by decide +kernel) rfl⟩
abbrev eJ6_bitCount_0f7a4 : EV := (yJ6_bitCount_0f7a4, cJ6_bitCount_0f7a4, 1, (some .int), rmOf 0 0 0)
theorem mfJ6_bitCount_0f7a4 : MF eJ6_bitCount_0f7a4 1 := ⟨gt_of 519 (by decide +kernel) rfl, gt_of 11 (by decide +kernel) rfl, by decide +kernel, by decide +kernel, by decide +kernel⟩
theorem slJ6_bitCount_0f7a4 : Cond.static yJ6_bitCount_0f7a4 ∈ GT := gt_of 518 (by decide +kernel) rfl
theorem flX7_10 : FL RX7 10 7 0 := Or.inl (gt_of 236 (by decide +kernel) rfl)
theorem ffX7_10 : Cond.fieldLink RX7 10 (Tn 7 0).1 (Tn 7 0).2.1 (Tn 7 0).2.2.1 ∈ GT := gt_of 236 (by decide +kernel) rfl
theorem flX7_19 : FL RX7 19 7 1 := Or.inl (gt_of 237 (by decide +kernel) rfl)
theorem ffX7_19 : Cond.fieldLink RX7 19 (Tn 7 1).1 (Tn 7 1).2.1 (Tn 7 1).2.2.1 ∈ GT := gt_of 237 (by decide +kernel) rfl
theorem flX7_26 : FL RX7 26 7 2 := Or.inl (gt_of 238 (by decide +kernel) rfl)
theorem ffX7_26 : Cond.fieldLink RX7 26 (Tn 7 2).1 (Tn 7 2).2.1 (Tn 7 2).2.2.1 ∈ GT := gt_of 238 (by decide +kernel) rfl
theorem flX7_33 : FL RX7 33 7 3 := Or.inl (gt_of 239 (by decide +kernel) rfl)
theorem ffX7_33 : Cond.fieldLink RX7 33 (Tn 7 3).1 (Tn 7 3).2.1 (Tn 7 3).2.2.1 ∈ GT := gt_of 239 (by decide +kernel) rfl
theorem flX7_37 : FL RX7 37 7 4 := Or.inl (gt_of 240 (by decide +kernel) rfl)
theorem ffX7_37 : Cond.fieldLink RX7 37 (Tn 7 4).1 (Tn 7 4).2.1 (Tn 7 4).2.2.1 ∈ GT := gt_of 240 (by decide +kernel) rfl
theorem flX7_41 : FL RX7 41 7 5 := Or.inl (gt_of 241 (by decide +kernel) rfl)
theorem ffX7_41 : Cond.fieldLink RX7 41 (Tn 7 5).1 (Tn 7 5).2.1 (Tn 7 5).2.2.1 ∈ GT := gt_of 241 (by decide +kernel) rfl
theorem flX7_48 : FL RX7 48 7 6 := Or.inl (gt_of 242 (by decide +kernel) rfl)
theorem ffX7_48 : Cond.fieldLink RX7 48 (Tn 7 6).1 (Tn 7 6).2.1 (Tn 7 6).2.2.1 ∈ GT := gt_of 242 (by decide +kernel) rfl
theorem flX7_55 : FL RX7 55 7 7 := Or.inl (gt_of 243 (by decide +kernel) rfl)
theorem ffX7_55 : Cond.fieldLink RX7 55 (Tn 7 7).1 (Tn 7 7).2.1 (Tn 7 7).2.2.1 ∈ GT := gt_of 243 (by decide +kernel) rfl
theorem flX7_59 : FL RX7 59 7 8 := Or.inl (gt_of 244 (by decide +kernel) rfl)
theorem ffX7_59 : Cond.fieldLink RX7 59 (Tn 7 8).1 (Tn 7 8).2.1 (Tn 7 8).2.2.1 ∈ GT := gt_of 244 (by decide +kernel) rfl
theorem flX7_62 : FL RX7 62 7 9 := Or.inl (gt_of 245 (by decide +kernel) rfl)
theorem ffX7_62 : Cond.fieldLink RX7 62 (Tn 7 9).1 (Tn 7 9).2.1 (Tn 7 9).2.2.1 ∈ GT := gt_of 245 (by decide +kernel) rfl
theorem flX7_69 : FL RX7 69 7 10 := Or.inl (gt_of 246 (by decide +kernel) rfl)
theorem ffX7_69 : Cond.fieldLink RX7 69 (Tn 7 10).1 (Tn 7 10).2.1 (Tn 7 10).2.2.1 ∈ GT := gt_of 246 (by decide +kernel) rfl
theorem flX7_73 : FL RX7 73 7 11 := Or.inl (gt_of 247 (by decide +kernel) rfl)
theorem flX7_77 : FL RX7 77 7 12 := Or.inl (gt_of 248 (by decide +kernel) rfl)
theorem flX7_84 : FL RX7 84 0 0 := Or.inr ⟨"ParrotCourt", nt_of 119 (by decide +kernel) rfl⟩
theorem flX7_93 : FL RX7 93 3 1 := Or.inr ⟨"ParrotCourt", nt_of 70 (by decide +kernel) rfl⟩
theorem flX7_105 : FL RX7 105 0 2 := Or.inr ⟨"ParrotCourt", nt_of 130 (by decide +kernel) rfl⟩
theorem flX7_112 : FL RX7 112 1 3 := Or.inr ⟨"ParrotCourt", nt_of 100 (by decide +kernel) rfl⟩
theorem flX7_115 : FL RX7 115 1 0 := Or.inr ⟨"ParrotCourt", nt_of 86 (by decide +kernel) rfl⟩
theorem flX7_118 : FL RX7 118 1 1 := Or.inr ⟨"ParrotCourt", nt_of 91 (by decide +kernel) rfl⟩
theorem flX7_121 : FL RX7 121 1 2 := Or.inr ⟨"ParrotCourt", nt_of 94 (by decide +kernel) rfl⟩
theorem flX7_128 : FL RX7 128 6 1 := Or.inr ⟨"ParrotCourt", nt_of 158 (by decide +kernel) rfl⟩
theorem flX7_146 : FL RX7 146 0 3 := Or.inr ⟨"ParrotCourt", nt_of 133 (by decide +kernel) rfl⟩
theorem flX7_149 : FL RX7 149 6 0 := Or.inr ⟨"ParrotCourt", nt_of 156 (by decide +kernel) rfl⟩
theorem flX7_155 : FL RX7 155 0 1 := Or.inr ⟨"ParrotCourt", nt_of 125 (by decide +kernel) rfl⟩
theorem flX7_164 : FL RX7 164 2 5 := Or.inr ⟨"ParrotCourt", nt_of 187 (by decide +kernel) rfl⟩
theorem flX7_167 : FL RX7 167 2 6 := Or.inr ⟨"ParrotCourt", nt_of 189 (by decide +kernel) rfl⟩
theorem flX7_170 : FL RX7 170 2 7 := Or.inr ⟨"ParrotCourt", nt_of 191 (by decide +kernel) rfl⟩
theorem flX7_183 : FL RX7 183 2 8 := Or.inr ⟨"ParrotCourt", nt_of 193 (by decide +kernel) rfl⟩
theorem flX7_209 : FL RX7 209 0 4 := Or.inr ⟨"ParrotCourt", nt_of 136 (by decide +kernel) rfl⟩
theorem fsX7_239 : Cond.fieldLink RX7 239 "ParrotCourt" "POWERS" "[I" ∈ GT := gt_of 45 (by decide +kernel) rfl
theorem fsX7_242 : Cond.fieldLink RX7 242 "ParrotCourt" "FIRSTS" "[I" ∈ GT := gt_of 36 (by decide +kernel) rfl
theorem flX0_9 : FL RX0 9 0 0 := Or.inl (gt_of 118 (by decide +kernel) rfl)
theorem ffX0_9 : Cond.fieldLink RX0 9 (Tn 0 0).1 (Tn 0 0).2.1 (Tn 0 0).2.2.1 ∈ GT := gt_of 118 (by decide +kernel) rfl
theorem flX0_15 : FL RX0 15 0 1 := Or.inl (gt_of 123 (by decide +kernel) rfl)
theorem ffX0_15 : Cond.fieldLink RX0 15 (Tn 0 1).1 (Tn 0 1).2.1 (Tn 0 1).2.2.1 ∈ GT := gt_of 123 (by decide +kernel) rfl
theorem flX0_21 : FL RX0 21 0 2 := Or.inl (gt_of 126 (by decide +kernel) rfl)
theorem ffX0_21 : Cond.fieldLink RX0 21 (Tn 0 2).1 (Tn 0 2).2.1 (Tn 0 2).2.2.1 ∈ GT := gt_of 126 (by decide +kernel) rfl
theorem flX0_25 : FL RX0 25 0 3 := Or.inl (gt_of 131 (by decide +kernel) rfl)
theorem flX0_29 : FL RX0 29 0 4 := Or.inl (gt_of 134 (by decide +kernel) rfl)
theorem flX1_9 : FL RX1 9 1 0 := Or.inl (gt_of 82 (by decide +kernel) rfl)
theorem ffX1_9 : Cond.fieldLink RX1 9 (Tn 1 0).1 (Tn 1 0).2.1 (Tn 1 0).2.2.1 ∈ GT := gt_of 82 (by decide +kernel) rfl
theorem flX1_15 : FL RX1 15 1 1 := Or.inl (gt_of 87 (by decide +kernel) rfl)
theorem ffX1_15 : Cond.fieldLink RX1 15 (Tn 1 1).1 (Tn 1 1).2.1 (Tn 1 1).2.2.1 ∈ GT := gt_of 87 (by decide +kernel) rfl
theorem flX1_18 : FL RX1 18 1 2 := Or.inl (gt_of 92 (by decide +kernel) rfl)
theorem ffX1_18 : Cond.fieldLink RX1 18 (Tn 1 2).1 (Tn 1 2).2.1 (Tn 1 2).2.2.1 ∈ GT := gt_of 92 (by decide +kernel) rfl
theorem flX1_21 : FL RX1 21 1 3 := Or.inl (gt_of 95 (by decide +kernel) rfl)
theorem flX2_11 : FL RX2 11 2 0 := Or.inl (gt_of 181 (by decide +kernel) rfl)
theorem ffX2_11 : Cond.fieldLink RX2 11 (Tn 2 0).1 (Tn 2 0).2.1 (Tn 2 0).2.2.1 ∈ GT := gt_of 181 (by decide +kernel) rfl
theorem flX2_18 : FL RX2 18 2 1 := Or.inl (gt_of 182 (by decide +kernel) rfl)
theorem ffX2_18 : Cond.fieldLink RX2 18 (Tn 2 1).1 (Tn 2 1).2.1 (Tn 2 1).2.2.1 ∈ GT := gt_of 182 (by decide +kernel) rfl
theorem flX2_21 : FL RX2 21 2 2 := Or.inl (gt_of 183 (by decide +kernel) rfl)
theorem ffX2_21 : Cond.fieldLink RX2 21 (Tn 2 2).1 (Tn 2 2).2.1 (Tn 2 2).2.2.1 ∈ GT := gt_of 183 (by decide +kernel) rfl
theorem flX2_25 : FL RX2 25 2 3 := Or.inl (gt_of 184 (by decide +kernel) rfl)
theorem flX2_29 : FL RX2 29 2 4 := Or.inl (gt_of 185 (by decide +kernel) rfl)
theorem flX2_33 : FL RX2 33 2 5 := Or.inl (gt_of 186 (by decide +kernel) rfl)
theorem flX2_36 : FL RX2 36 2 6 := Or.inl (gt_of 188 (by decide +kernel) rfl)
theorem flX2_39 : FL RX2 39 2 7 := Or.inl (gt_of 190 (by decide +kernel) rfl)
theorem flX2_42 : FL RX2 42 2 8 := Or.inl (gt_of 192 (by decide +kernel) rfl)
theorem flX2_49 : FL RX2 49 0 1 := Or.inr ⟨"ParrotCourt", nt_of 124 (by decide +kernel) rfl⟩
theorem flX2_59 : FL RX2 59 0 2 := Or.inr ⟨"ParrotCourt", nt_of 129 (by decide +kernel) rfl⟩
theorem flX2_63 : FL RX2 63 1 3 := Or.inr ⟨"ParrotCourt", nt_of 98 (by decide +kernel) rfl⟩
theorem flX2_74 : FL RX2 74 1 0 := Or.inr ⟨"ParrotCourt", nt_of 83 (by decide +kernel) rfl⟩
theorem flX2_77 : FL RX2 77 1 1 := Or.inr ⟨"ParrotCourt", nt_of 88 (by decide +kernel) rfl⟩
theorem flX2_80 : FL RX2 80 0 0 := Or.inr ⟨"ParrotCourt", nt_of 120 (by decide +kernel) rfl⟩
theorem flX3_9 : FL RX3 9 3 0 := Or.inl (gt_of 68 (by decide +kernel) rfl)
theorem ffX3_9 : Cond.fieldLink RX3 9 (Tn 3 0).1 (Tn 3 0).2.1 (Tn 3 0).2.2.1 ∈ GT := gt_of 68 (by decide +kernel) rfl
theorem flX3_15 : FL RX3 15 3 1 := Or.inl (gt_of 69 (by decide +kernel) rfl)
theorem flX3_27 : FL RX3 27 1 3 := Or.inr ⟨"ParrotCourt", nt_of 99 (by decide +kernel) rfl⟩
theorem flX4_9 : FL RX4 9 4 0 := Or.inl (gt_of 51 (by decide +kernel) rfl)
theorem ffX4_9 : Cond.fieldLink RX4 9 (Tn 4 0).1 (Tn 4 0).2.1 (Tn 4 0).2.2.1 ∈ GT := gt_of 51 (by decide +kernel) rfl
theorem flX4_15 : FL RX4 15 4 1 := Or.inl (gt_of 52 (by decide +kernel) rfl)
theorem ffX4_15 : Cond.fieldLink RX4 15 (Tn 4 1).1 (Tn 4 1).2.1 (Tn 4 1).2.2.1 ∈ GT := gt_of 52 (by decide +kernel) rfl
theorem flX4_18 : FL RX4 18 4 2 := Or.inl (gt_of 53 (by decide +kernel) rfl)
theorem flX5_9 : FL RX5 9 5 0 := Or.inl (gt_of 220 (by decide +kernel) rfl)
theorem ffX5_9 : Cond.fieldLink RX5 9 (Tn 5 0).1 (Tn 5 0).2.1 (Tn 5 0).2.2.1 ∈ GT := gt_of 220 (by decide +kernel) rfl
theorem flX5_15 : FL RX5 15 5 1 := Or.inl (gt_of 221 (by decide +kernel) rfl)
theorem ffX5_15 : Cond.fieldLink RX5 15 (Tn 5 1).1 (Tn 5 1).2.1 (Tn 5 1).2.2.1 ∈ GT := gt_of 221 (by decide +kernel) rfl
theorem flX5_18 : FL RX5 18 5 2 := Or.inl (gt_of 222 (by decide +kernel) rfl)
theorem ffX5_18 : Cond.fieldLink RX5 18 (Tn 5 2).1 (Tn 5 2).2.1 (Tn 5 2).2.2.1 ∈ GT := gt_of 222 (by decide +kernel) rfl
theorem flX5_21 : FL RX5 21 5 3 := Or.inl (gt_of 223 (by decide +kernel) rfl)
theorem flX5_25 : FL RX5 25 5 4 := Or.inl (gt_of 224 (by decide +kernel) rfl)
theorem flX5_28 : FL RX5 28 0 2 := Or.inr ⟨"ParrotCourt", nt_of 127 (by decide +kernel) rfl⟩
theorem flX5_34 : FL RX5 34 1 3 := Or.inr ⟨"ParrotCourt", nt_of 96 (by decide +kernel) rfl⟩
theorem flX5_47 : FL RX5 47 1 0 := Or.inr ⟨"ParrotCourt", nt_of 84 (by decide +kernel) rfl⟩
theorem flX5_50 : FL RX5 50 1 1 := Or.inr ⟨"ParrotCourt", nt_of 89 (by decide +kernel) rfl⟩
theorem flX5_57 : FL RX5 57 0 0 := Or.inr ⟨"ParrotCourt", nt_of 121 (by decide +kernel) rfl⟩
theorem flX6_9 : FL RX6 9 6 0 := Or.inl (gt_of 155 (by decide +kernel) rfl)
theorem ffX6_9 : Cond.fieldLink RX6 9 (Tn 6 0).1 (Tn 6 0).2.1 (Tn 6 0).2.2.1 ∈ GT := gt_of 155 (by decide +kernel) rfl
theorem flX6_15 : FL RX6 15 6 1 := Or.inl (gt_of 157 (by decide +kernel) rfl)
theorem ffX6_15 : Cond.fieldLink RX6 15 (Tn 6 1).1 (Tn 6 1).2.1 (Tn 6 1).2.2.1 ∈ GT := gt_of 157 (by decide +kernel) rfl
theorem flX6_19 : FL RX6 19 6 2 := Or.inl (gt_of 159 (by decide +kernel) rfl)
theorem flX6_23 : FL RX6 23 6 3 := Or.inl (gt_of 160 (by decide +kernel) rfl)
theorem flX6_29 : FL RX6 29 0 2 := Or.inr ⟨"ParrotCourt", nt_of 128 (by decide +kernel) rfl⟩
theorem flX6_35 : FL RX6 35 1 3 := Or.inr ⟨"ParrotCourt", nt_of 97 (by decide +kernel) rfl⟩
theorem flX6_44 : FL RX6 44 1 2 := Or.inr ⟨"ParrotCourt", nt_of 93 (by decide +kernel) rfl⟩
theorem flX6_55 : FL RX6 55 1 0 := Or.inr ⟨"ParrotCourt", nt_of 85 (by decide +kernel) rfl⟩
theorem flX6_58 : FL RX6 58 1 1 := Or.inr ⟨"ParrotCourt", nt_of 90 (by decide +kernel) rfl⟩
theorem flX6_68 : FL RX6 68 0 0 := Or.inr ⟨"ParrotCourt", nt_of 122 (by decide +kernel) rfl⟩
theorem flX6_71 : FL RX6 71 0 3 := Or.inr ⟨"ParrotCourt", nt_of 132 (by decide +kernel) rfl⟩
theorem flX6_87 : FL RX6 87 0 4 := Or.inr ⟨"ParrotCourt", nt_of 135 (by decide +kernel) rfl⟩
theorem flX8_7 : FL RX8 7 8 0 := Or.inl (gt_of 596 (by decide +kernel) rfl)
theorem ffX8_7 : Cond.fieldLink RX8 7 (Tn 8 0).1 (Tn 8 0).2.1 (Tn 8 0).2.2.1 ∈ GT := gt_of 596 (by decide +kernel) rfl
theorem flX8_13 : FL RX8 13 8 2 := Or.inl (gt_of 598 (by decide +kernel) rfl)
theorem ffX8_13 : Cond.fieldLink RX8 13 (Tn 8 2).1 (Tn 8 2).2.1 (Tn 8 2).2.2.1 ∈ GT := gt_of 598 (by decide +kernel) rfl
theorem flX8_16 : FL RX8 16 8 4 := Or.inl (gt_of 600 (by decide +kernel) rfl)
theorem ffX8_16 : Cond.fieldLink RX8 16 (Tn 8 4).1 (Tn 8 4).2.1 (Tn 8 4).2.2.1 ∈ GT := gt_of 600 (by decide +kernel) rfl
theorem flX8_19 : FL RX8 19 8 5 := Or.inl (gt_of 601 (by decide +kernel) rfl)
theorem ffX8_19 : Cond.fieldLink RX8 19 (Tn 8 5).1 (Tn 8 5).2.1 (Tn 8 5).2.2.1 ∈ GT := gt_of 601 (by decide +kernel) rfl
theorem flX8_22 : FL RX8 22 8 6 := Or.inl (gt_of 602 (by decide +kernel) rfl)
theorem ffX8_22 : Cond.fieldLink RX8 22 (Tn 8 6).1 (Tn 8 6).2.1 (Tn 8 6).2.2.1 ∈ GT := gt_of 602 (by decide +kernel) rfl
theorem flX8_25 : FL RX8 25 8 7 := Or.inl (gt_of 603 (by decide +kernel) rfl)
theorem ffX8_25 : Cond.fieldLink RX8 25 (Tn 8 7).1 (Tn 8 7).2.1 (Tn 8 7).2.2.1 ∈ GT := gt_of 603 (by decide +kernel) rfl
theorem flX8_28 : FL RX8 28 8 10 := Or.inl (gt_of 606 (by decide +kernel) rfl)
theorem ffX8_28 : Cond.fieldLink RX8 28 (Tn 8 10).1 (Tn 8 10).2.1 (Tn 8 10).2.2.1 ∈ GT := gt_of 606 (by decide +kernel) rfl
theorem flX8_31 : FL RX8 31 8 12 := Or.inl (gt_of 608 (by decide +kernel) rfl)
theorem ffX8_31 : Cond.fieldLink RX8 31 (Tn 8 12).1 (Tn 8 12).2.1 (Tn 8 12).2.2.1 ∈ GT := gt_of 608 (by decide +kernel) rfl
theorem flX8_34 : FL RX8 34 8 14 := Or.inl (gt_of 610 (by decide +kernel) rfl)
theorem ffX8_34 : Cond.fieldLink RX8 34 (Tn 8 14).1 (Tn 8 14).2.1 (Tn 8 14).2.2.1 ∈ GT := gt_of 610 (by decide +kernel) rfl
theorem flX8_37 : FL RX8 37 8 16 := Or.inl (gt_of 612 (by decide +kernel) rfl)
theorem ffX8_37 : Cond.fieldLink RX8 37 (Tn 8 16).1 (Tn 8 16).2.1 (Tn 8 16).2.2.1 ∈ GT := gt_of 612 (by decide +kernel) rfl
theorem flX8_41 : FL RX8 41 8 17 := Or.inl (gt_of 613 (by decide +kernel) rfl)
theorem ffX8_41 : Cond.fieldLink RX8 41 (Tn 8 17).1 (Tn 8 17).2.1 (Tn 8 17).2.2.1 ∈ GT := gt_of 613 (by decide +kernel) rfl
theorem flX8_44 : FL RX8 44 8 18 := Or.inl (gt_of 614 (by decide +kernel) rfl)
theorem ffX8_44 : Cond.fieldLink RX8 44 (Tn 8 18).1 (Tn 8 18).2.1 (Tn 8 18).2.2.1 ∈ GT := gt_of 614 (by decide +kernel) rfl
theorem flX8_48 : FL RX8 48 8 19 := Or.inl (gt_of 615 (by decide +kernel) rfl)
theorem ffX8_48 : Cond.fieldLink RX8 48 (Tn 8 19).1 (Tn 8 19).2.1 (Tn 8 19).2.2.1 ∈ GT := gt_of 615 (by decide +kernel) rfl
theorem flX8_51 : FL RX8 51 8 20 := Or.inl (gt_of 616 (by decide +kernel) rfl)
theorem ffX8_51 : Cond.fieldLink RX8 51 (Tn 8 20).1 (Tn 8 20).2.1 (Tn 8 20).2.2.1 ∈ GT := gt_of 616 (by decide +kernel) rfl
theorem flX8_54 : FL RX8 54 8 22 := Or.inl (gt_of 618 (by decide +kernel) rfl)
theorem ffX8_54 : Cond.fieldLink RX8 54 (Tn 8 22).1 (Tn 8 22).2.1 (Tn 8 22).2.2.1 ∈ GT := gt_of 618 (by decide +kernel) rfl
theorem flX8_57 : FL RX8 57 8 23 := Or.inl (gt_of 619 (by decide +kernel) rfl)
theorem ffX8_57 : Cond.fieldLink RX8 57 (Tn 8 23).1 (Tn 8 23).2.1 (Tn 8 23).2.2.1 ∈ GT := gt_of 619 (by decide +kernel) rfl
theorem flX8_60 : FL RX8 60 8 25 := Or.inl (gt_of 621 (by decide +kernel) rfl)
theorem ffX8_60 : Cond.fieldLink RX8 60 (Tn 8 25).1 (Tn 8 25).2.1 (Tn 8 25).2.2.1 ∈ GT := gt_of 621 (by decide +kernel) rfl
theorem flX8_63 : FL RX8 63 8 26 := Or.inl (gt_of 622 (by decide +kernel) rfl)
theorem ffX8_63 : Cond.fieldLink RX8 63 (Tn 8 26).1 (Tn 8 26).2.1 (Tn 8 26).2.2.1 ∈ GT := gt_of 622 (by decide +kernel) rfl
theorem flX8_66 : FL RX8 66 8 11 := Or.inl (gt_of 607 (by decide +kernel) rfl)
theorem flX8_83 : FL RX8 83 8 1 := Or.inl (gt_of 597 (by decide +kernel) rfl)
theorem flX8_90 : FL RX8 90 8 3 := Or.inl (gt_of 599 (by decide +kernel) rfl)
theorem flX8_113 : FL RX8 113 8 13 := Or.inl (gt_of 609 (by decide +kernel) rfl)
theorem flX8_138 : FL RX8 138 8 8 := Or.inl (gt_of 604 (by decide +kernel) rfl)
theorem flX8_147 : FL RX8 147 8 9 := Or.inl (gt_of 605 (by decide +kernel) rfl)
theorem flX8_150 : FL RX8 150 8 15 := Or.inl (gt_of 611 (by decide +kernel) rfl)
theorem flX8_214 : FL RX8 214 8 21 := Or.inl (gt_of 617 (by decide +kernel) rfl)
theorem flX8_249 : FL RX8 249 8 24 := Or.inl (gt_of 620 (by decide +kernel) rfl)
theorem flX8_275 : FL RX8 275 8 28 := Or.inl (gt_of 624 (by decide +kernel) rfl)
theorem flX8_279 : FL RX8 279 8 27 := Or.inl (gt_of 623 (by decide +kernel) rfl)
theorem moX7_1 : Cond.methodLink RX7 1 Lib.objectInit ∈ GT := gt_of 17 (by decide +kernel) rfl
theorem mlX7_9 : ML RX7 9 yX4_init := Or.inl (gt_of 22 (by decide +kernel) rfl)
theorem mlX7_18 : ML RX7 18 yX3_init := Or.inr ⟨"ParrotCourt", nt_of 64 (by decide +kernel) rfl⟩
theorem mlX7_25 : ML RX7 25 yX1_init := Or.inr ⟨"ParrotCourt", nt_of 78 (by decide +kernel) rfl⟩
theorem mlX7_32 : ML RX7 32 yX0_init := Or.inr ⟨"ParrotCourt", nt_of 112 (by decide +kernel) rfl⟩
theorem mlX7_47 : ML RX7 47 yX6_init := Or.inr ⟨"ParrotCourt", nt_of 151 (by decide +kernel) rfl⟩
theorem mlX7_54 : ML RX7 54 yX2_init := Or.inr ⟨"ParrotCourt", nt_of 173 (by decide +kernel) rfl⟩
theorem mlX7_68 : ML RX7 68 yX5_init := Or.inr ⟨"ParrotCourt", nt_of 216 (by decide +kernel) rfl⟩
theorem mlX7_80 : ML RX7 80 yX7_isBird := Or.inl (gt_of 280 (by decide +kernel) rfl)
theorem mlX7_87 : ML RX7 87 yX7_forgetHistories := Or.inl (gt_of 283 (by decide +kernel) rfl)
theorem mlX7_90 : ML RX7 90 yX3_add := Or.inl (gt_of 291 (by decide +kernel) rfl)
theorem mlX7_97 : ML RX7 97 yX3_readDays := Or.inl (gt_of 303 (by decide +kernel) rfl)
theorem mlX7_101 : ML RX7 101 yX3_sayingFault := Or.inl (gt_of 319 (by decide +kernel) rfl)
theorem mlX7_108 : ML RX7 108 yX1_copy := Or.inl (gt_of 327 (by decide +kernel) rfl)
theorem mlX7_124 : ML RX7 124 yX6_throughDays := Or.inl (gt_of 335 (by decide +kernel) rfl)
theorem mlX7_131 : ML RX7 131 yX3_readSaying := Or.inl (gt_of 371 (by decide +kernel) rfl)
theorem mlX7_134 : ML RX7 134 yX4_count := Or.inl (gt_of 377 (by decide +kernel) rfl)
theorem mlX7_138 : ML RX7 138 yX4_numbered := Or.inl (gt_of 381 (by decide +kernel) rfl)
theorem mlX7_142 : ML RX7 142 yX7_lengthOf := Or.inl (gt_of 382 (by decide +kernel) rfl)
theorem mlX7_152 : ML RX7 152 yX7_wordOf := Or.inl (gt_of 391 (by decide +kernel) rfl)
theorem mlX7_158 : ML RX7 158 yX7_reckonHistories := Or.inl (gt_of 407 (by decide +kernel) rfl)
theorem mlX7_161 : ML RX7 161 yX2_costOf := Or.inl (gt_of 449 (by decide +kernel) rfl)
theorem mlX7_175 : ML RX7 175 yX2_waysOf := Or.inl (gt_of 462 (by decide +kernel) rfl)
theorem mlX7_187 : ML RX7 187 yX7_commonDivisor := Or.inl (gt_of 473 (by decide +kernel) rfl)
theorem mlX7_191 : ML RX7 191 yX2_countUpTo := Or.inl (gt_of 480 (by decide +kernel) rfl)
theorem mlX7_194 : ML RX7 194 yX7_reckonWithout := Or.inl (gt_of 488 (by decide +kernel) rfl)
theorem mlX7_197 : ML RX7 197 yX7_prepareTelling := Or.inl (gt_of 496 (by decide +kernel) rfl)
theorem mlX7_200 : ML RX7 200 yX5_fewestBirds := Or.inl (gt_of 513 (by decide +kernel) rfl)
theorem mlX7_203 : ML RX7 203 yX5_tells := Or.inl (gt_of 539 (by decide +kernel) rfl)
theorem mlX7_206 : ML RX7 206 yX7_power := Or.inl (gt_of 394 (by decide +kernel) rfl)
theorem mlX7_212 : ML RX7 212 yX7_areYears := Or.inl (gt_of 548 (by decide +kernel) rfl)
theorem mlX7_216 : ML RX7 216 yX6_beginYears := Or.inl (gt_of 551 (by decide +kernel) rfl)
theorem mlX7_220 : ML RX7 220 yX6_throughDrawnDay := Or.inl (gt_of 555 (by decide +kernel) rfl)
theorem mlX7_224 : ML RX7 224 yX0_copy := Or.inl (gt_of 577 (by decide +kernel) rfl)
theorem mlX7_227 : ML RX7 227 yX7_birdsWithSaying := Or.inl (gt_of 500 (by decide +kernel) rfl)
theorem mlX7_231 : ML RX7 231 yX2_reckon := Or.inl (gt_of 411 (by decide +kernel) rfl)
theorem mlX7_235 : ML RX7 235 yX5_prepare := Or.inl (gt_of 503 (by decide +kernel) rfl)
theorem mlX7_245 : ML RX7 245 yX7_firstOf := Or.inl (gt_of 33 (by decide +kernel) rfl)
theorem moX0_3 : Cond.methodLink RX0 3 Lib.objectInit ∈ GT := gt_of 115 (by decide +kernel) rfl
theorem mlX0_20 : ML RX0 20 yX1_init := Or.inr ⟨"ParrotCourt", nt_of 117 (by decide +kernel) rfl⟩
theorem mlX0_32 : ML RX0 32 yX1_copy := Or.inl (gt_of 581 (by decide +kernel) rfl)
theorem moX1_3 : Cond.methodLink RX1 3 Lib.objectInit ∈ GT := gt_of 81 (by decide +kernel) rfl
theorem moX2_3 : Cond.methodLink RX2 3 Lib.objectInit ∈ GT := gt_of 176 (by decide +kernel) rfl
theorem mlX2_45 : ML RX2 45 yX2_free := Or.inl (gt_of 415 (by decide +kernel) rfl)
theorem mlX2_55 : ML RX2 55 yX2_bind := Or.inl (gt_of 419 (by decide +kernel) rfl)
theorem mmX2_68 : Cond.methodLink RX2 68 Lib.Math.min.name ∈ GT := gt_of 427 (by decide +kernel) rfl
theorem mlX2_83 : ML RX2 83 yX2_goBack := Or.inl (gt_of 430 (by decide +kernel) rfl)
theorem mlX2_87 : ML RX2 87 yX2_someBirdIsBound := Or.inl (gt_of 441 (by decide +kernel) rfl)
theorem mlX2_91 : ML RX2 91 yX2_forbid := Or.inl (gt_of 423 (by decide +kernel) rfl)
theorem mlX2_94 : ML RX2 94 yX2_sumUp := Or.inl (gt_of 445 (by decide +kernel) rfl)
theorem mlX2_97 : ML RX2 97 yX2_costOf := Or.inl (gt_of 466 (by decide +kernel) rfl)
theorem mlX2_101 : ML RX2 101 yX7_isBird := Or.inr ⟨"ParrotCourt", nt_of 434 (by decide +kernel) rfl⟩
theorem mlX2_105 : ML RX2 105 yX2_weigh := Or.inl (gt_of 435 (by decide +kernel) rfl)
theorem mlX2_109 : ML RX2 109 yX4_count := Or.inl (gt_of 439 (by decide +kernel) rfl)
theorem mlX2_114 : ML RX2 114 yX4_numbered := Or.inl (gt_of 440 (by decide +kernel) rfl)
theorem moX3_3 : Cond.methodLink RX3 3 Lib.objectInit ∈ GT := gt_of 67 (by decide +kernel) rfl
theorem mlX3_19 : ML RX3 19 yX3_sayingFault := Or.inl (gt_of 375 (by decide +kernel) rfl)
theorem mlX3_23 : ML RX3 23 yX7_firstOf := Or.inr ⟨"ParrotCourt", nt_of 376 (by decide +kernel) rfl⟩
theorem mlX3_32 : ML RX3 32 yX7_isBird := Or.inr ⟨"ParrotCourt", nt_of 307 (by decide +kernel) rfl⟩
theorem mlX3_36 : ML RX3 36 yX1_add := Or.inl (gt_of 308 (by decide +kernel) rfl)
theorem mlX3_40 : ML RX3 40 yX1_setLastDigit := Or.inl (gt_of 312 (by decide +kernel) rfl)
theorem mlX3_44 : ML RX3 44 yX3_speakerOf := Or.inl (gt_of 316 (by decide +kernel) rfl)
theorem moX4_3 : Cond.methodLink RX4 3 Lib.objectInit ∈ GT := gt_of 25 (by decide +kernel) rfl
theorem mlX4_22 : ML RX4 22 yX4_list := Or.inl (gt_of 26 (by decide +kernel) rfl)
theorem mlX4_26 : ML RX4 26 yX7_lengthOf := Or.inr ⟨"ParrotCourt", nt_of 30 (by decide +kernel) rfl⟩
theorem mlX4_30 : ML RX4 30 yX7_firstOf := Or.inr ⟨"ParrotCourt", nt_of 38 (by decide +kernel) rfl⟩
theorem mlX4_33 : ML RX4 33 yX4_slipped := Or.inl (gt_of 39 (by decide +kernel) rfl)
theorem mlX4_37 : ML RX4 37 yX4_addUnlike := Or.inl (gt_of 47 (by decide +kernel) rfl)
theorem mlX4_40 : ML RX4 40 yX7_power := Or.inr ⟨"ParrotCourt", nt_of 42 (by decide +kernel) rfl⟩
theorem mlX4_43 : ML RX4 43 yX4_rowOf := Or.inl (gt_of 364 (by decide +kernel) rfl)
theorem moX5_3 : Cond.methodLink RX5 3 Lib.objectInit ∈ GT := gt_of 219 (by decide +kernel) rfl
theorem mmX5_37 : Cond.methodLink RX5 37 Lib.Math.min.name ∈ GT := gt_of 507 (by decide +kernel) rfl
theorem mlX5_43 : ML RX5 43 yX5_goBack := Or.inl (gt_of 508 (by decide +kernel) rfl)
theorem mlX5_53 : ML RX5 53 yX7_isBird := Or.inr ⟨"ParrotCourt", nt_of 512 (by decide +kernel) rfl⟩
theorem mlX5_60 : ML RX5 60 yX5_slipsIn := Or.inl (gt_of 527 (by decide +kernel) rfl)
theorem mlX5_63 : ML RX5 63 yX5_halves := Or.inl (gt_of 531 (by decide +kernel) rfl)
theorem mlX5_67 : ML RX5 67 yJ6_bitCount_0f7a4 := Or.inl (gt_of 517 (by decide +kernel) rfl)
theorem mlX5_73 : ML RX5 73 yX5_tells := Or.inl (gt_of 523 (by decide +kernel) rfl)
theorem moX6_3 : Cond.methodLink RX6 3 Lib.objectInit ∈ GT := gt_of 154 (by decide +kernel) rfl
theorem mlX6_26 : ML RX6 26 yX6_forgetAll := Or.inl (gt_of 339 (by decide +kernel) rfl)
theorem mlX6_40 : ML RX6 40 yX6_listen := Or.inl (gt_of 343 (by decide +kernel) rfl)
theorem mlX6_47 : ML RX6 47 yX6_keep := Or.inl (gt_of 352 (by decide +kernel) rfl)
theorem mlX6_51 : ML RX6 51 yX6_draw := Or.inl (gt_of 559 (by decide +kernel) rfl)
theorem mlX6_61 : ML RX6 61 yX7_isBird := Or.inr ⟨"ParrotCourt", nt_of 347 (by decide +kernel) rfl⟩
theorem mlX6_65 : ML RX6 65 yX1_isAnswer := Or.inl (gt_of 348 (by decide +kernel) rfl)
theorem mlX6_74 : ML RX6 74 yX6_saidIn := Or.inl (gt_of 356 (by decide +kernel) rfl)
theorem mlX6_78 : ML RX6 78 yX4_numbered := Or.inl (gt_of 360 (by decide +kernel) rfl)
theorem mlX6_84 : ML RX6 84 yX6_nextSeed := Or.inl (gt_of 563 (by decide +kernel) rfl)
theorem mlX6_90 : ML RX6 90 yX4_count := Or.inl (gt_of 568 (by decide +kernel) rfl)
theorem mlL_9 : ML RL 9 yX7_init := Or.inl (gt_of 14 (by decide +kernel) rfl)
theorem mlL_12 : ML RL 12 yX8_init := Or.inl (gt_of 592 (by decide +kernel) rfl)
theorem mlL_13 : ML RL 13 yX7_sort := Or.inl (gt_of 276 (by decide +kernel) rfl)
theorem mlL_17 : ML RL 17 yX8_sort := Or.inl (gt_of 684 (by decide +kernel) rfl)
theorem mlL_18 : ML RL 18 yX7_say := Or.inl (gt_of 287 (by decide +kernel) rfl)
theorem mlL_22 : ML RL 22 yX8_say := Or.inl (gt_of 696 (by decide +kernel) rfl)
theorem mlL_23 : ML RL 23 yX7_wipe := Or.inl (gt_of 295 (by decide +kernel) rfl)
theorem mlL_27 : ML RL 27 yX8_wipe := Or.inl (gt_of 702 (by decide +kernel) rfl)
theorem mlL_28 : ML RL 28 yX7_fault := Or.inl (gt_of 299 (by decide +kernel) rfl)
theorem mlL_31 : ML RL 31 yX8_fault := Or.inl (gt_of 706 (by decide +kernel) rfl)
theorem mlL_32 : ML RL 32 yX7_days := Or.inl (gt_of 323 (by decide +kernel) rfl)
theorem mlL_35 : ML RL 35 yX8_days := Or.inl (gt_of 727 (by decide +kernel) rfl)
theorem mlL_36 : ML RL 36 yX7_part := Or.inl (gt_of 331 (by decide +kernel) rfl)
theorem mlL_39 : ML RL 39 yX8_part := Or.inl (gt_of 766 (by decide +kernel) rfl)
theorem mlL_40 : ML RL 40 yX7_slips := Or.inl (gt_of 367 (by decide +kernel) rfl)
theorem mlL_43 : ML RL 43 yX8_slips := Or.inl (gt_of 731 (by decide +kernel) rfl)
theorem mlL_44 : ML RL 44 yX7_bargain := Or.inl (gt_of 383 (by decide +kernel) rfl)
theorem mlL_47 : ML RL 47 yX8_bargain := Or.inl (gt_of 762 (by decide +kernel) rfl)
theorem mlL_48 : ML RL 48 yX7_says := Or.inl (gt_of 387 (by decide +kernel) rfl)
theorem mlL_51 : ML RL 51 yX8_says := Or.inl (gt_of 786 (by decide +kernel) rfl)
theorem mlL_52 : ML RL 52 yX7_testify := Or.inl (gt_of 395 (by decide +kernel) rfl)
theorem mlL_55 : ML RL 55 yX8_testify := Or.inl (gt_of 794 (by decide +kernel) rfl)
theorem mlL_56 : ML RL 56 yX7_unsay := Or.inl (gt_of 399 (by decide +kernel) rfl)
theorem mlL_59 : ML RL 59 yX8_unsay := Or.inl (gt_of 798 (by decide +kernel) rfl)
theorem mlL_60 : ML RL 60 yX7_cost := Or.inl (gt_of 403 (by decide +kernel) rfl)
theorem mlL_63 : ML RL 63 yX8_cost := Or.inl (gt_of 802 (by decide +kernel) rfl)
theorem mlL_64 : ML RL 64 yX7_likely := Or.inl (gt_of 453 (by decide +kernel) rfl)
theorem mlL_67 : ML RL 67 yX8_likely := Or.inl (gt_of 829 (by decide +kernel) rfl)
theorem mlL_68 : ML RL 68 yX7_ways := Or.inl (gt_of 457 (by decide +kernel) rfl)
theorem mlL_72 : ML RL 72 yX8_ways := Or.inl (gt_of 840 (by decide +kernel) rfl)
theorem mlL_73 : ML RL 73 yX7_odds := Or.inl (gt_of 467 (by decide +kernel) rfl)
theorem mlL_77 : ML RL 77 yX8_odds := Or.inl (gt_of 849 (by decide +kernel) rfl)
theorem mlL_78 : ML RL 78 yX7_canBe := Or.inl (gt_of 476 (by decide +kernel) rfl)
theorem mlL_81 : ML RL 81 yX8_canBe := Or.inl (gt_of 855 (by decide +kernel) rfl)
theorem mlL_82 : ML RL 82 yX7_taught := Or.inl (gt_of 484 (by decide +kernel) rfl)
theorem mlL_85 : ML RL 85 yX8_taught := Or.inl (gt_of 864 (by decide +kernel) rfl)
theorem mlL_86 : ML RL 86 yX7_few := Or.inl (gt_of 492 (by decide +kernel) rfl)
theorem mlL_89 : ML RL 89 yX8_few := Or.inl (gt_of 868 (by decide +kernel) rfl)
theorem mlL_90 : ML RL 90 yX7_doubt := Or.inl (gt_of 535 (by decide +kernel) rfl)
theorem mlL_93 : ML RL 93 yX8_doubt := Or.inl (gt_of 900 (by decide +kernel) rfl)
theorem mlL_94 : ML RL 94 yX7_rare := Or.inl (gt_of 540 (by decide +kernel) rfl)
theorem mlL_97 : ML RL 97 yX8_rare := Or.inl (gt_of 905 (by decide +kernel) rfl)
theorem mlL_98 : ML RL 98 yX7_years := Or.inl (gt_of 544 (by decide +kernel) rfl)
theorem mlL_102 : ML RL 102 yX8_years := Or.inl (gt_of 909 (by decide +kernel) rfl)
theorem mlL_103 : ML RL 103 yX7_lost := Or.inl (gt_of 569 (by decide +kernel) rfl)
theorem mlL_107 : ML RL 107 yX8_lost := Or.inl (gt_of 933 (by decide +kernel) rfl)
theorem mlL_108 : ML RL 108 yX7_image := Or.inl (gt_of 573 (by decide +kernel) rfl)
theorem mlL_111 : ML RL 111 yX8_image := Or.inl (gt_of 937 (by decide +kernel) rfl)
theorem mlL_112 : ML RL 112 yX7_restore := Or.inl (gt_of 582 (by decide +kernel) rfl)
theorem mlL_115 : ML RL 115 yX8_restore := Or.inl (gt_of 949 (by decide +kernel) rfl)
theorem mlL_116 : ML RL 116 yX7_told := Or.inl (gt_of 586 (by decide +kernel) rfl)
theorem mlL_119 : ML RL 119 yX8_told := Or.inl (gt_of 953 (by decide +kernel) rfl)
theorem moX8_1 : Cond.methodLink RX8 1 Lib.objectInit ∈ GT := gt_of 595 (by decide +kernel) rfl
theorem mlX8_72 : ML RX8 72 yX8_in := Or.inl (gt_of 692 (by decide +kernel) rfl)
theorem mlX8_76 : ML RX8 76 yX8_firstOf := Or.inl (gt_of 739 (by decide +kernel) rfl)
theorem mlX8_80 : ML RX8 80 yX8_wordsOf := Or.inl (gt_of 751 (by decide +kernel) rfl)
theorem mlX8_86 : ML RX8 86 yX8_lay := Or.inl (gt_of 747 (by decide +kernel) rfl)
theorem mlX8_95 : ML RX8 95 yX8_numberWith := Or.inl (gt_of 754 (by decide +kernel) rfl)
theorem mlX8_99 : ML RX8 99 yX8_addSlip := Or.inl (gt_of 758 (by decide +kernel) rfl)
theorem mlX8_103 : ML RX8 103 yX8_isBird := Or.inl (gt_of 688 (by decide +kernel) rfl)
theorem mlX8_120 : ML RX8 120 yX8_isLetter := Or.inl (gt_of 714 (by decide +kernel) rfl)
theorem mlX8_131 : ML RX8 131 yX8_faultOfDays := Or.inl (gt_of 710 (by decide +kernel) rfl)
theorem mlX8_135 : ML RX8 135 yX8_faultOfSaying := Or.inl (gt_of 721 (by decide +kernel) rfl)
theorem mlX8_141 : ML RX8 141 yX8_padSaying := Or.inl (gt_of 735 (by decide +kernel) rfl)
theorem mlX8_144 : ML RX8 144 yX8_findSlips := Or.inl (gt_of 742 (by decide +kernel) rfl)
theorem mlX8_153 : ML RX8 153 yX8_hears := Or.inl (gt_of 782 (by decide +kernel) rfl)
theorem mlX8_157 : ML RX8 157 yX8_forget := Or.inl (gt_of 774 (by decide +kernel) rfl)
theorem mlX8_160 : ML RX8 160 yX8_go := Or.inl (gt_of 778 (by decide +kernel) rfl)
theorem mlX8_164 : ML RX8 164 yX8_goDay := Or.inl (gt_of 770 (by decide +kernel) rfl)
theorem mlX8_168 : ML RX8 168 yX8_signAt := Or.inl (gt_of 790 (by decide +kernel) rfl)
theorem mlX8_172 : ML RX8 172 yX8_sourceOf := Or.inl (gt_of 821 (by decide +kernel) rfl)
theorem mlX8_175 : ML RX8 175 yX8_at := Or.inl (gt_of 814 (by decide +kernel) rfl)
theorem mlX8_178 : ML RX8 178 yX8_isLast := Or.inl (gt_of 810 (by decide +kernel) rfl)
theorem mlX8_181 : ML RX8 181 yX8_hang := Or.inl (gt_of 817 (by decide +kernel) rfl)
theorem mlX8_184 : ML RX8 184 yX8_costOf := Or.inl (gt_of 825 (by decide +kernel) rfl)
theorem mlX8_187 : ML RX8 187 yX8_findCosts := Or.inl (gt_of 806 (by decide +kernel) rfl)
theorem mlX8_196 : ML RX8 196 yX8_leastCost := Or.inl (gt_of 836 (by decide +kernel) rfl)
theorem mlX8_201 : ML RX8 201 yX8_waysOf := Or.inl (gt_of 845 (by decide +kernel) rfl)
theorem mlX8_211 : ML RX8 211 yX8_canBeBy := Or.inl (gt_of 860 (by decide +kernel) rfl)
theorem mlX8_217 : ML RX8 217 yX8_manyOf := Or.inl (gt_of 876 (by decide +kernel) rfl)
theorem mlX8_220 : ML RX8 220 yX8_keepRow := Or.inl (gt_of 879 (by decide +kernel) rfl)
theorem mlX8_223 : ML RX8 223 yX8_slipsAt := Or.inl (gt_of 883 (by decide +kernel) rfl)
theorem mlX8_228 : ML RX8 228 yX8_maskOf := Or.inl (gt_of 894 (by decide +kernel) rfl)
theorem mlX8_236 : ML RX8 236 yX8_ones := Or.inl (gt_of 887 (by decide +kernel) rfl)
theorem mlX8_239 : ML RX8 239 yX8_findRows := Or.inl (gt_of 872 (by decide +kernel) rfl)
theorem mlX8_242 : ML RX8 242 yX8_doubtful := Or.inl (gt_of 890 (by decide +kernel) rfl)
theorem mlX8_256 : ML RX8 256 yX8_draw := Or.inl (gt_of 926 (by decide +kernel) rfl)
theorem mlX8_259 : ML RX8 259 yX8_slipBy := Or.inl (gt_of 922 (by decide +kernel) rfl)
theorem mlX8_267 : ML RX8 267 yX8_isSeed := Or.inl (gt_of 913 (by decide +kernel) rfl)
theorem mlX8_271 : ML RX8 271 yX8_passDay := Or.inl (gt_of 918 (by decide +kernel) rfl)
theorem mlX8_282 : ML RX8 282 yX8_pass := Or.inl (gt_of 945 (by decide +kernel) rfl)
theorem mlX8_285 : ML RX8 285 yX8_passAll := Or.inl (gt_of 941 (by decide +kernel) rfl)
theorem mlX8_294 : ML RX8 294 yX8_testified := Or.inl (gt_of 960 (by decide +kernel) rfl)
theorem mlX8_297 : ML RX8 297 yX8_haveHeard := Or.inl (gt_of 964 (by decide +kernel) rfl)
theorem ob_in : Cond.instanceMethod Lib.objectInit ∈ GT := gt_of 18 (by decide +kernel) rfl
theorem ob_cd : Cond.code Lib.objectInit ⟨#[0xb1]⟩ 1 none ∈ GT := gt_of 19 (by decide +kernel) rfl
theorem mm_st : Cond.static Lib.Math.min.name ∈ GT := gt_of 428 (by decide +kernel) rfl
theorem mm_in : Cond.initialized "java/lang/Math" ∈ GT := gt_of 10 (by decide +kernel) rfl
theorem mm_cd : Cond.code Lib.Math.min.name Lib.Math.min.code 2 (some .int) ∈ GT := gt_of 429 (by decide +kernel) rfl
theorem klX7_7 : Cond.classLink RX7 7 "ParrotCourt$Slips" ∈ GT := gt_of 20 (by decide +kernel) rfl
theorem knX7_7 : Cond.classLink RX7 7 (Rn 4) ∈ GT := gt_of 20 (by decide +kernel) rfl
theorem klX7_16 : Cond.classLink RX7 16 "ParrotCourt$Pad" ∈ GT := gt_of 62 (by decide +kernel) rfl
theorem knX7_16 : Cond.classLink RX7 16 (Rn 3) ∈ GT := gt_of 62 (by decide +kernel) rfl
theorem klX7_23 : Cond.classLink RX7 23 "ParrotCourt$Days" ∈ GT := gt_of 76 (by decide +kernel) rfl
theorem knX7_23 : Cond.classLink RX7 23 (Rn 1) ∈ GT := gt_of 76 (by decide +kernel) rfl
theorem klX7_30 : Cond.classLink RX7 30 "ParrotCourt$Court" ∈ GT := gt_of 110 (by decide +kernel) rfl
theorem knX7_30 : Cond.classLink RX7 30 (Rn 0) ∈ GT := gt_of 110 (by decide +kernel) rfl
theorem klX7_45 : Cond.classLink RX7 45 "ParrotCourt$Walk" ∈ GT := gt_of 149 (by decide +kernel) rfl
theorem knX7_45 : Cond.classLink RX7 45 (Rn 6) ∈ GT := gt_of 149 (by decide +kernel) rfl
theorem klX7_52 : Cond.classLink RX7 52 "ParrotCourt$Histories" ∈ GT := gt_of 171 (by decide +kernel) rfl
theorem knX7_52 : Cond.classLink RX7 52 (Rn 2) ∈ GT := gt_of 171 (by decide +kernel) rfl
theorem klX7_66 : Cond.classLink RX7 66 "ParrotCourt$Telling" ∈ GT := gt_of 214 (by decide +kernel) rfl
theorem knX7_66 : Cond.classLink RX7 66 (Rn 5) ∈ GT := gt_of 214 (by decide +kernel) rfl
theorem klX0_18 : Cond.classLink RX0 18 "ParrotCourt$Days" ∈ GT := gt_of 116 (by decide +kernel) rfl
theorem knX0_18 : Cond.classLink RX0 18 (Rn 1) ∈ GT := gt_of 116 (by decide +kernel) rfl
theorem klX2_9 : Cond.classLink RX2 9 "[[I" ∈ GT := gt_of 177 (by decide +kernel) rfl
theorem klX2_16 : Cond.classLink RX2 16 "[[J" ∈ GT := gt_of 179 (by decide +kernel) rfl
theorem klL_7 : Cond.classLink RL 7 "ParrotCourt" ∈ GT := gt_of 12 (by decide +kernel) rfl
theorem knL_7 : Cond.classLink RL 7 (Rn 7) ∈ GT := gt_of 12 (by decide +kernel) rfl
theorem klL_10 : Cond.classLink RL 10 "ParrotCourtModel" ∈ GT := gt_of 590 (by decide +kernel) rfl
theorem knL_10 : Cond.classLink RL 10 (Rn 8) ∈ GT := gt_of 590 (by decide +kernel) rfl
theorem ib7 : Cond.instantiable (Rn 7) (nF 7) ∈ GT := gt_of 13 (by decide +kernel) rfl
theorem ib4 : Cond.instantiable (Rn 4) (nF 4) ∈ GT := gt_of 21 (by decide +kernel) rfl
theorem ib3 : Cond.instantiable (Rn 3) (nF 3) ∈ GT := gt_of 63 (by decide +kernel) rfl
theorem ib1 : Cond.instantiable (Rn 1) (nF 1) ∈ GT := gt_of 77 (by decide +kernel) rfl
theorem ib0 : Cond.instantiable (Rn 0) (nF 0) ∈ GT := gt_of 111 (by decide +kernel) rfl
theorem ib6 : Cond.instantiable (Rn 6) (nF 6) ∈ GT := gt_of 150 (by decide +kernel) rfl
theorem ib2 : Cond.instantiable (Rn 2) (nF 2) ∈ GT := gt_of 172 (by decide +kernel) rfl
theorem ib5 : Cond.instantiable (Rn 5) (nF 5) ∈ GT := gt_of 215 (by decide +kernel) rfl
theorem ib8 : Cond.instantiable (Rn 8) (nF 8) ∈ GT := gt_of 591 (by decide +kernel) rfl
theorem it7 : Cond.initialized (Rn 7) ∈ GT := gt_of 1 (by decide +kernel) rfl
theorem it4 : Cond.initialized (Rn 4) ∈ GT := gt_of 2 (by decide +kernel) rfl
theorem it3 : Cond.initialized (Rn 3) ∈ GT := gt_of 3 (by decide +kernel) rfl
theorem it1 : Cond.initialized (Rn 1) ∈ GT := gt_of 4 (by decide +kernel) rfl
theorem it0 : Cond.initialized (Rn 0) ∈ GT := gt_of 5 (by decide +kernel) rfl
theorem it6 : Cond.initialized (Rn 6) ∈ GT := gt_of 6 (by decide +kernel) rfl
theorem it2 : Cond.initialized (Rn 2) ∈ GT := gt_of 7 (by decide +kernel) rfl
theorem it5 : Cond.initialized (Rn 5) ∈ GT := gt_of 8 (by decide +kernel) rfl
theorem it8 : Cond.initialized (Rn 8) ∈ GT := gt_of 9 (by decide +kernel) rfl
theorem ac0 : Cond.arrayClass (ktOf 0) ∈ GT := gt_of 61 (by decide +kernel) rfl
theorem ac1 : Cond.arrayClass (ktOf 1) ∈ GT := gt_of 213 (by decide +kernel) rfl
theorem ac2 : Cond.arrayClass (ktOf 2) ∈ GT := gt_of 170 (by decide +kernel) rfl
theorem coX6_94 : Cond.constant RX6 94 (i32 (65537)) ∈ GT := gt_of 567 (by decide +kernel) rfl
theorem coJ6_265 : Cond.constant RJ6 265 (i32 (1431655765)) ∈ GT := gt_of 520 (by decide +kernel) rfl
theorem coJ6_266 : Cond.constant RJ6 266 (i32 (858993459)) ∈ GT := gt_of 521 (by decide +kernel) rfl
theorem coJ6_267 : Cond.constant RJ6 267 (i32 (252645135)) ∈ GT := gt_of 522 (by decide +kernel) rfl
theorem clX7_173 : Cond.constantLong RX7 173 (i64 (-1000000000000000005)) ∈ GT := gt_of 461 (by decide +kernel) rfl
theorem clX7_179 : Cond.constantLong RX7 179 (i64 (-1000000000000000002)) ∈ GT := gt_of 471 (by decide +kernel) rfl
theorem clX7_181 : Cond.constantLong RX7 181 (i64 (-1000000000000000003)) ∈ GT := gt_of 472 (by decide +kernel) rfl
theorem clX8_70 : Cond.constantLong RX8 70 (i64 (5)) ∈ GT := gt_of 691 (by decide +kernel) rfl
theorem clX8_93 : Cond.constantLong RX8 93 (i64 (3)) ∈ GT := gt_of 746 (by decide +kernel) rfl
theorem clX8_107 : Cond.constantLong RX8 107 (i64 (4)) ∈ GT := gt_of 695 (by decide +kernel) rfl
theorem clX8_109 : Cond.constantLong RX8 109 (i64 (33)) ∈ GT := gt_of 700 (by decide +kernel) rfl
theorem clX8_111 : Cond.constantLong RX8 111 (i64 (126)) ∈ GT := gt_of 701 (by decide +kernel) rfl
theorem clX8_116 : Cond.constantLong RX8 116 (i64 (65)) ∈ GT := gt_of 717 (by decide +kernel) rfl
theorem clX8_118 : Cond.constantLong RX8 118 (i64 (70)) ∈ GT := gt_of 718 (by decide +kernel) rfl
theorem clX8_123 : Cond.constantLong RX8 123 (i64 (49)) ∈ GT := gt_of 719 (by decide +kernel) rfl
theorem clX8_125 : Cond.constantLong RX8 125 (i64 (57)) ∈ GT := gt_of 720 (by decide +kernel) rfl
theorem clX8_127 : Cond.constantLong RX8 127 (i64 (97)) ∈ GT := gt_of 725 (by decide +kernel) rfl
theorem clX8_129 : Cond.constantLong RX8 129 (i64 (99)) ∈ GT := gt_of 726 (by decide +kernel) rfl
theorem clX8_190 : Cond.constantLong RX8 190 (i64 (2)) ∈ GT := gt_of 833 (by decide +kernel) rfl
theorem clX8_192 : Cond.constantLong RX8 192 (i64 (10)) ∈ GT := gt_of 834 (by decide +kernel) rfl
theorem clX8_194 : Cond.constantLong RX8 194 (i64 (14)) ∈ GT := gt_of 835 (by decide +kernel) rfl
theorem clX8_199 : Cond.constantLong RX8 199 (i64 (-1000000000000000005)) ∈ GT := gt_of 844 (by decide +kernel) rfl
theorem clX8_205 : Cond.constantLong RX8 205 (i64 (-1000000000000000002)) ∈ GT := gt_of 853 (by decide +kernel) rfl
theorem clX8_207 : Cond.constantLong RX8 207 (i64 (-1000000000000000003)) ∈ GT := gt_of 854 (by decide +kernel) rfl
theorem clX8_209 : Cond.constantLong RX8 209 (i64 (16)) ∈ GT := gt_of 859 (by decide +kernel) rfl
theorem clX8_226 : Cond.constantLong RX8 226 (i64 (511)) ∈ GT := gt_of 897 (by decide +kernel) rfl
theorem clX8_232 : Cond.constantLong RX8 232 (i64 (2654435761)) ∈ GT := gt_of 898 (by decide +kernel) rfl
theorem clX8_234 : Cond.constantLong RX8 234 (i64 (16384)) ∈ GT := gt_of 899 (by decide +kernel) rfl
theorem clX8_245 : Cond.constantLong RX8 245 (i64 (63)) ∈ GT := gt_of 904 (by decide +kernel) rfl
theorem clX8_247 : Cond.constantLong RX8 247 (i64 (75)) ∈ GT := gt_of 930 (by decide +kernel) rfl
theorem clX8_252 : Cond.constantLong RX8 252 (i64 (74)) ∈ GT := gt_of 931 (by decide +kernel) rfl
theorem clX8_254 : Cond.constantLong RX8 254 (i64 (65537)) ∈ GT := gt_of 932 (by decide +kernel) rfl
theorem clX8_263 : Cond.constantLong RX8 263 (i64 (9999)) ∈ GT := gt_of 916 (by decide +kernel) rfl
theorem clX8_265 : Cond.constantLong RX8 265 (i64 (400)) ∈ GT := gt_of 917 (by decide +kernel) rfl
theorem clX8_288 : Cond.constantLong RX8 288 (i64 (15)) ∈ GT := gt_of 957 (by decide +kernel) rfl
theorem clX8_290 : Cond.constantLong RX8 290 (i64 (20)) ∈ GT := gt_of 958 (by decide +kernel) rfl
theorem clX8_292 : Cond.constantLong RX8 292 (i64 (25)) ∈ GT := gt_of 959 (by decide +kernel) rfl
