/-! new cells: the world's list grows at its end -/
def adP (ad : Nat → Nat) (N q : Nat) : Nat → Nat := fun j => if j = N then q else ad j
theorem adP_n {ad : Nat → Nat} {N q j : Nat} (h : j ≠ N) : adP ad N q j = ad j := by simp [adP, h]
theorem adP_s {ad : Nat → Nat} {N q : Nat} : adP ad N q N = q := by simp [adP]
theorem map_ext {ad ad' : Nat → Nat} {r : Option Nat} (h : ∀ t, r = some t → ad' t = ad t) : r.map ad' = r.map ad := by
  cases r with
  | none => rfl
  | some t => simp [h t rfl]
theorem cellOf_ext {dA : Nat → ClassId} {ad ad' : Nat → Nat} {K K' : KK} {hi hl : HI} {k : Nat} (h : ∀ j, (K'.2 k j).map ad' = (K.2 k j).map ad) (sh : Sh) : cellOf dA ad' K' hi hl k sh = cellOf dA ad K hi hl k sh := by
  have hf : ∀ f i l kd, fldV ad' (K'.2 k f) i l kd = fldV ad (K.2 k f) i l kd := fun f i l kd => by
    unfold fldV
    split
    · rfl
    · rfl
    · rw [h f]
  unfold cellOf
  split <;> simp [h, hf]
theorem conc_push {dA : Nat → ClassId} {ad : Nat → Nat} {K : KK} {hi hl : HI} {q : Nat} {sh : Sh} (hwf : wfK K) (hz : ∀ j, K.2 K.1.length j = none) : conc dA (adP ad K.1.length q) (K.1 ++ [sh], K.2) hi hl = conc dA ad K hi hl ++ [(q, cellOf dA ad K hi hl K.1.length sh)] := by
  unfold conc
  rw [List.length_append, List.length_singleton, List.range_succ, List.map_append]
  congr 1
  · apply List.map_congr_left
    intro k hk
    have hk : k < K.1.length := List.mem_range.mp hk
    rw [adP_n (Nat.ne_of_lt hk)]
    have e1 : (K.1 ++ [sh]).getD k (.inr 0) = K.1.getD k (.inr 0) := by simp [List.getD, List.getElem?_append_left hk]
    rw [e1, cellOf_ext (K := K) (ad := ad)]
    intro j
    exact map_ext (fun t ht => adP_n (Nat.ne_of_lt (hwf.1 k j t hk ht)))
  · simp only [List.map_cons, List.map_nil, adP_s]
    have e1 : (K.1 ++ [sh]).getD K.1.length (.inr 0) = sh := by simp [List.getD]
    rw [e1, cellOf_ext (K := K) (ad := ad)]
    intro j
    rw [hz j]; rfl
theorem wfK_push {K : KK} {sh : Sh} (hwf : wfK K) (hz : ∀ j, K.2 K.1.length j = none) (hN : K.1.length + 1 < SC) : wfK (K.1 ++ [sh], K.2) := by
  refine ⟨fun a j t ha ht => ?_, by simpa using hN⟩
  have ha : a < K.1.length + 1 := by simpa using ha
  show t < (K.1 ++ [sh]).length
  rw [List.length_append, List.length_singleton]
  rcases Nat.lt_or_ge a K.1.length with h | h
  · exact Nat.lt_succ_of_lt (hwf.1 a j t h ht)
  · have : a = K.1.length := by omega
    rw [this] at ht
    rw [hz j] at ht
    cases ht
theorem ls_push {ad : Nat → Nat} {N q : Nat} {ls : List (Nat × AV)} (hN : N < SC) (h : ∀ x ∈ ls, okV N x.2) : lsC (adP ad N q) ls = lsC ad ls := by
  unfold lsC
  apply List.map_congr_left
  intro x hx
  rw [cv_ext (ad := ad) (N := N) (fun k hk => adP_n (by rcases hk with h | h <;> omega)) (h x hx)]
theorem st_push {ad : Nat → Nat} {N q : Nat} {st : List AV} (hN : N < SC) (h : ∀ x ∈ st, okV N x) : st.map (cv (adP ad N q)) = st.map (cv ad) := List.map_congr_left (fun x hx => cv_ext (ad := ad) (N := N) (fun k hk => adP_n (by rcases hk with h | h <;> omega)) (h x hx))
def okTy : FieldType → Bool
  | .int => true
  | .boolean => true
  | .long => true
  | .array _ => true
  | .object _ => true
  | _ => false
theorem dv_ok {ty : FieldType} (ad : Nat → Nat) (h : okTy ty = true) : defaultValue ty = fldV ad none 0 0 (fkO ty) := by cases ty <;> simp [okTy] at h <;> rfl
theorem tys_okTy : ∀ c, c < 9 → ∀ f, f < nF c → okTy (tyOf c f) = true := by
  intro c h
  rcases (show c = 0 ∨ c = 1 ∨ c = 2 ∨ c = 3 ∨ c = 4 ∨ c = 5 ∨ c = 6 ∨ c = 7 ∨ c = 8 by omega) with rfl | rfl | rfl | rfl | rfl | rfl | rfl | rfl | rfl <;> decide +kernel
section VAlloc
variable {e e1 : EV} {sc : ST} {K : KK} {pc : Nat} {ls : List (Nat × AV)} {st : List AV} {hi hl : HI} {cs ss : Nat} {Q : QT}
def Z0 (K : KK) (hi hl : HI) (N : Nat) : Prop := ∀ j, hi N j = 0 ∧ hl N j = 0 ∧ K.2 N j = none
set_option maxHeartbeats 1000000 in
theorem V.new {idx c : Nat} (hin : ∀ c, c < 9 → ∀ w ∈ u_ws (Rn c) (Tn c) (nF c), w ∈ GT) (hcl : Cond.classLink e.1.cls idx (Rn c) ∈ GT) (hinst : Cond.instantiable (Rn c) (nF c) ∈ GT) (hini : Cond.initialized (Rn c) ∈ GT) (hd : decode e.2.1 pc = .ok (.new idx, 3)) (hc : c < 9) (hz : Z0 K hi hl K.1.length) (hN : K.1.length + 1 < SC) (hcs : cs + 1 ≤ e.2.2.2.2.cells) (hss : ss + nF c ≤ e.2.2.2.2.slots)
    (k : V e sc (K.1 ++ [.inr c], K.2) (pc + 3) ls (vR K.1.length :: st) hi hl (cs + 1) (ss + nF c) Q) : V e sc K pc ls st hi hl cs ss Q := by
  intro N0 ad0 p l env s m args below meth c0 A dC dI dA Qs hS H locs ad lsA hW hD
  obtain ⟨hx, hb, hml, hown, hts, hnw, hK, hnm, hA, hsc, hR⟩ := id hS
  have hNS : K.1.length < SC := hW.2.2.2.2.1.2
  have hzr : ∀ j, K.2 K.1.length j = none := fun j => (hz j).2.2
  have efs : ∀ j, j < nF c → defaultValue (tyOf c j) = vp_V ((List.range (nF c)).map (fun f => fldV ad (K.2 K.1.length f) (hi K.1.length f) (hl K.1.length f) (fkO (tyOf c f)))) j := fun j hj => by
    unfold vp_V
    rw [getD_of (flds_at hj), hzr j, (hz j).1, (hz j).2.1]
    exact dv_ok ad (tys_okTy c hc j hj)
  refine va_new hx hb hts (hin c hc) (tyOf c) (tyOf_ok hc) hown (hts _ hcl) (hts _ hinst) (hts _ hini) hK hW.1 hW.2.1 hW.2.2.1 hA (cl_at hc) efs hcs hss hd (fun q H1 hP1 hD1 hS1 => ?_)
  have ec := conc_push (dA := dA) (ad := ad) (hi := hi) (hl := hl) (q := q) (sh := .inr c) hW.2.2.2.2.1 hzr
  have ec2 := ec
  conv at ec2 => rhs; unfold cellOf
  rw [← ec2] at hP1 hD1
  have hk := k N0 ad0 p l env s m args below meth c0 A dC dI dA Qs hS H1 locs (adP ad K.1.length q) lsA ⟨hP1, hD1, hS1, hW.2.2.2.1, wfK_push hW.2.2.2.2.1 hzr hN, by have := hW.2.2.2.2.2.1; simp; omega, fun k hk => by
      rw [adP_n (by have := hW.2.2.2.2.2.1; rcases hk with h | h <;> omega)]
      exact hW.2.2.2.2.2.2 k hk⟩
    ⟨by rw [ls_push hNS hD.2.1]; exact hD.1, fun x hx => okV_mono (by simp) (hD.2.1 x hx), ok_cons (Or.inl (by simp)) (fun x hx => okV_mono (by simp) (hD.2.2.1 x hx)), hcs, hss⟩
  rw [List.map_cons, st_push hNS hD.2.2.1] at hk
  have er : cv (adP ad K.1.length q) (vR K.1.length) = .ref q := by simp [cv, adP]
  rw [er] at hk
  exact hk
def akOf : Nat → ArrayType
  | 0 => .int
  | 1 => .long
  | _ => .boolean
set_option maxHeartbeats 1000000 in
theorem V.newarr {z : Int} (t n : Nat) (hacl : Cond.arrayClass (ktOf t) ∈ GT) (hd : decode e.2.1 pc = .ok (.newarray (akOf t), 2)) (ht : t < 3) (hz : z = n) (hn : n < 1000000) (hz0 : Z0 K hi hl K.1.length) (hN : K.1.length + 1 < SC) (hcs : cs + 1 ≤ e.2.2.2.2.cells) (hss : ss + n ≤ e.2.2.2.2.slots)
    (k : V e sc (K.1 ++ [.inl (t, n)], K.2) (pc + 2) ls (vR K.1.length :: st) hi hl (cs + 1) (ss + n) Q) : V e sc K pc ls (vI z :: st) hi hl cs ss Q := by
  intro N0 ad0 p l env s m args below meth c0 A dC dI dA Qs hS H locs ad lsA hW hD
  obtain ⟨hx, hb, hml, hown, hts, hnw, hK, hnm, hA, hsc, hR⟩ := id hS
  have hNS : K.1.length < SC := hW.2.2.2.2.1.2
  have hzr : ∀ j, K.2 K.1.length j = none := fun j => (hz0 j).2.2
  obtain ⟨h1, h2⟩ := i32_in (len := 1000000) hz hn hD.hd
  have hneg : ¬ i32 z < 0 := fun q => h1 (Or.inl q)
  have ety : newarray.typeOf (akOf t) = ktOf t := by rcases (show t = 0 ∨ t = 1 ∨ t = 2 by omega) with rfl | rfl | rfl <;> rfl
  have hcell : ∀ cA : ClassId, vp_cell cA (match cellOf dA ad K hi hl K.1.length (.inl (t, n)) with | .inl a => a.2 | .inr _ => (0, .inl (fun _ => 0))) = arrV cA n (fun _ => defaultValue (ktOf t)) := fun cA => by
    rcases (show t = 0 ∨ t = 1 ∨ t = 2 by omega) with rfl | rfl | rfl
    · show vp_cell cA (n, .inl (fun j => i32 (hi K.1.length j))) = _
      rw [vp_cell_i]
      exact congrArg (arrV cA n) (funext fun j => by rw [(hz0 j).1]; rfl)
    · show vp_cell cA (n, .inr (.inl (fun j => i64 (hl K.1.length j)))) = _
      rw [vp_cell_l]
      exact congrArg (arrV cA n) (funext fun j => by rw [(hz0 j).2.1]; rfl)
    · show vp_cell cA (n, .inl (fun j => i32 (hi K.1.length j))) = _
      rw [vp_cell_i]
      exact congrArg (arrV cA n) (funext fun j => by rw [(hz0 j).1]; rfl)
  refine va_newa (atype := akOf t) hx hb (by rw [ety]; exact hts _ hacl) ety hK hW.1 hW.2.1 hW.2.2.1 hA hcell hneg h2 (by rcases (show t = 0 ∨ t = 1 ∨ t = 2 by omega) with rfl | rfl | rfl <;> simp [ktOf, componentBytes] <;> omega) hcs hss hd (fun q cA H1 hK1 hP1 hD1 hS1 => ?_)
  have ecA : cA = dA t := by
    have ha := hK1.2 6 (cA, ktOf t) (by simp [tysOf])
    have hb2 := hK.2 t (dA t, ktOf t) (tys_at dA (by omega))
    have h3 : s.vm.findClass ("[" ++ (ktOf t).toString) = some cA := by rcases (show t = 0 ∨ t = 1 ∨ t = 2 by omega) with rfl | rfl | rfl <;> exact ha.2
    have h4 : s.vm.findClass ("[" ++ (ktOf t).toString) = some (dA t) := by rcases (show t = 0 ∨ t = 1 ∨ t = 2 by omega) with rfl | rfl | rfl <;> exact hb2.2
    exact Option.some.inj (h3.symm.trans h4)
  have ec := conc_push (dA := dA) (ad := ad) (hi := hi) (hl := hl) (q := q) (sh := .inl (t, n)) hW.2.2.2.2.1 hzr
  have ecell : (Sum.inl (cA, match cellOf dA ad K hi hl K.1.length (.inl (t, n)) with | .inl a => a.2 | .inr _ => (0, .inl (fun _ => 0))) : va_E) = cellOf dA ad K hi hl K.1.length (.inl (t, n)) := by
    rw [ecA]
    rcases (show t = 0 ∨ t = 1 ∨ t = 2 by omega) with rfl | rfl | rfl <;> rfl
  rw [ecell, ← ec] at hP1 hD1
  have hk := k N0 ad0 p l env s m args below meth c0 A dC dI dA Qs hS H1 locs (adP ad K.1.length q) lsA ⟨hP1, hD1, hS1, hW.2.2.2.1, wfK_push hW.2.2.2.2.1 hzr hN, by have := hW.2.2.2.2.2.1; simp; omega, fun k hk => by
      rw [adP_n (by have := hW.2.2.2.2.2.1; rcases hk with h | h <;> omega)]
      exact hW.2.2.2.2.2.2 k hk⟩
    ⟨by rw [ls_push hNS hD.2.1]; exact hD.1, fun x hx => okV_mono (by simp) (hD.2.1 x hx), ok_cons (Or.inl (by simp)) (fun x hx => okV_mono (by simp) (hD.tl x hx)), hcs, hss⟩
  rw [List.map_cons, st_push hNS hD.tl] at hk
  have er : cv (adP ad K.1.length q) (vR K.1.length) = .ref q := by simp [cv, adP]
  rw [er] at hk
  exact hk
set_option maxHeartbeats 1000000 in
theorem V.anew {z : Int} {idx : Nat} (n : Nat) (hcl : Cond.classLink e.1.cls idx "ParrotCourt$Court" ∈ GT) (hd : decode e.2.1 pc = .ok (.anewarray idx, 3)) (hz : z = n) (hn : n < 1000000) (hz0 : Z0 K hi hl K.1.length) (hN : K.1.length + 1 < SC) (hcs : cs + 1 ≤ e.2.2.2.2.cells) (hss : ss + n ≤ e.2.2.2.2.slots)
    (k : V e sc (K.1 ++ [.inl (3, n)], K.2) (pc + 3) ls (vR K.1.length :: st) hi hl (cs + 1) (ss + n) Q) : V e sc K pc ls (vI z :: st) hi hl cs ss Q := by
  intro N0 ad0 p l env s m args below meth c0 A dC dI dA Qs hS H locs ad lsA hW hD
  obtain ⟨hx, hb, hml, hown, hts, hnw, hK, hnm, hA, hsc, hR⟩ := id hS
  have hNS : K.1.length < SC := hW.2.2.2.2.1.2
  have hzr : ∀ j, K.2 K.1.length j = none := fun j => (hz0 j).2.2
  obtain ⟨h1, h2⟩ := i32_in (len := 1000000) hz hn hD.hd
  have hneg : ¬ i32 z < 0 := fun q => h1 (Or.inl q)
  refine va_newq hx hb hown (hts _ hcl) hnw.2.1 hK hW.1 hW.2.1 hW.2.2.1 hA hneg h2 (by omega) hcs hss hd (fun q cA H1 hK1 hP1 hD1 hS1 => ?_)
  have ecA : cA = dA 3 := by
    have ha := hK1.2 6 (cA, .object "ParrotCourt$Court") (by simp [tysOf])
    have hb2 := hK.2 3 (dA 3, .object "ParrotCourt$Court") rfl
    obtain ⟨_, _, _, _, _, h3⟩ := ha.2
    obtain ⟨_, _, _, _, _, h4⟩ := hb2.2
    exact Option.some.inj (h3.symm.trans h4)
  have ec := conc_push (dA := dA) (ad := ad) (hi := hi) (hl := hl) (q := q) (sh := .inl (3, n)) hW.2.2.2.2.1 hzr
  have ecell : (Sum.inl (cA, n, .inr (.inr (.inr (.inr (fun _ => none))))) : va_E) = cellOf dA ad K hi hl K.1.length (.inl (3, n)) := by
    rw [ecA]
    show _ = (Sum.inl (dA 3, n, .inr (.inr (.inr (.inr (fun j => (K.2 K.1.length j).map ad))))) : va_E)
    simp [hzr]
  rw [ecell, ← ec] at hP1 hD1
  have hk := k N0 ad0 p l env s m args below meth c0 A dC dI dA Qs hS H1 locs (adP ad K.1.length q) lsA ⟨hP1, hD1, hS1, hW.2.2.2.1, wfK_push hW.2.2.2.2.1 hzr hN, by have := hW.2.2.2.2.2.1; simp; omega, fun k hk => by
      rw [adP_n (by have := hW.2.2.2.2.2.1; rcases hk with h | h <;> omega)]
      exact hW.2.2.2.2.2.2 k hk⟩
    ⟨by rw [ls_push hNS hD.2.1]; exact hD.1, fun x hx => okV_mono (by simp) (hD.2.1 x hx), ok_cons (Or.inl (by simp)) (fun x hx => okV_mono (by simp) (hD.tl x hx)), hcs, hss⟩
  rw [List.map_cons, st_push hNS hD.tl] at hk
  have er : cv (adP ad K.1.length q) (vR K.1.length) = .ref q := by simp [cv, adP]
  rw [er] at hk
  exact hk
set_option maxHeartbeats 1000000 in
theorem V.aast {o len t : Nat} {z : Int} (n : Nat) (hd : decode e.2.1 pc = .ok (.aastore, 1)) (hsh : K.1[o]? = some (.inl (3, len))) (hz : z = n) (hn : n < len) (ht : K.1[t]? = some (.inr 0))
    (k : V e sc (K.1, up2 K.2 o n (some t)) (pc + 1) ls st hi hl cs ss Q) : V e sc K pc ls (vR t :: vI z :: vR o :: st) hi hl cs ss Q := by
  intro N0 ad0 p l env s m args below meth c0 A dC dI dA Qs hS H locs ad lsA hW hD
  obtain ⟨hx, hb, hml, hown, hts, hnw, hK, hnm, hA, hsc, hR⟩ := id hS
  have hs1 := (List.forall_mem_cons.mp hD.tl)
  obtain ⟨h1, h2⟩ := i32_in hz hn hs1.1
  have hs2 := (List.forall_mem_cons.mp hs1.2).2
  have htl : t < K.1.length := (List.getElem?_eq_some_iff.mp ht).1
  refine va_astq (r := (RX0, TX0, 5)) hx hb hK hW.1 hW.2.1 hW.2.2.1 o 3 t 0 (conc_at hsh) rfl (conc_at ht) rfl h1 hd (fun H1 locs1 hP1 hD1 hS1 => ?_)
  have es := conc_set (dA := dA) (ad := ad) (K := K) (K' := (K.1, up2 K.2 o n (some t))) (hi := hi) (hl := hl) (hi' := hi) (hl' := hl) hsh rfl (fun x hx => up2_a hx) (fun _ _ => rfl) (fun _ _ => rfl)
  have ef : va_up (fun j => (K.2 o j).map ad) (i32 z).toNatClampNeg (some (ad t)) = (fun j => (up2 K.2 o n (some t) o j).map ad) := by
    rw [h2]
    funext j
    by_cases hj : j = n <;> simp [va_up, up2, hj]
  rw [ef] at hP1 hD1
  have es2 := es
  unfold cellOf at es2
  rw [es2] at hP1 hD1
  refine k N0 ad0 p l env s m args below meth c0 A dC dI dA Qs hS H1 locs1 ad lsA ⟨hP1, hD1, hS1, hW.2.2.2.1, ⟨fun a j u ha hu => ?_, hW.2.2.2.2.1.2⟩, hW.2.2.2.2.2⟩ (hD.sk hs2)
  by_cases hq : a = o ∧ j = n
  · rw [hq.1, hq.2] at hu
    simp only [up2_s] at hu
    cases hu
    exact htl
  · have hu2 : K.2 a j = some u := by rw [← up2_n (h := K.2) (v := some t) hq]; exact hu
    exact hW.2.2.2.2.1.1 a j u ha hu2
end VAlloc
