/-! fields, ends, contracts, calls -/
def FL (own : String) (idx c f : Nat) : Prop := Cond.fieldLink own idx (Tn c f).1 (Tn c f).2.1 (Tn c f).2.2.1 ∈ GT ∨ ∃ host, Cond.fieldLinkNest own idx (Tn c f).1 (Tn c f).2.1 (Tn c f).2.2.1 host ∈ NT
theorem flds_at {ad : Nat → Nat} {K : KK} {hi hl : HI} {o c f : Nat} (hf : f < nF c) : ((List.range (nF c)).map (fun f => fldV ad (K.2 o f) (hi o f) (hl o f) (fkO (tyOf c f))))[f]? = some (fldV ad (K.2 o f) (hi o f) (hl o f) (fkO (tyOf c f))) := by
  rw [List.getElem?_map, List.getElem?_range hf]; rfl
theorem flds_set {ad : Nat → Nat} {K K' : KK} {hi hl hi' hl' : HI} {o c f : Nat} {v : Value} (hf : f < nF c) (hv : v = fldV ad (K'.2 o f) (hi' o f) (hl' o f) (fkO (tyOf c f))) (hr : ∀ j, j ≠ f → K'.2 o j = K.2 o j) (hh : ∀ j, j ≠ f → hi' o j = hi o j) (hll : ∀ j, j ≠ f → hl' o j = hl o j) :
    ((List.range (nF c)).map (fun f => fldV ad (K.2 o f) (hi o f) (hl o f) (fkO (tyOf c f)))).set f v = (List.range (nF c)).map (fun f => fldV ad (K'.2 o f) (hi' o f) (hl' o f) (fkO (tyOf c f))) := by
  apply List.ext_getElem?
  intro k
  by_cases hk : k = f
  · subst hk
    rw [List.getElem?_set_self (by simp [hf]), List.getElem?_map, List.getElem?_range hf, hv]
    rfl
  · rw [List.getElem?_set_ne (Ne.symm hk), List.getElem?_map, List.getElem?_map]
    by_cases hl2 : k < nF c
    · rw [List.getElem?_range hl2]
      simp [hr k hk, hh k hk, hll k hk]
    · rw [List.getElem?_eq_none (by simp; omega)]; rfl
section VRules2
variable {e : EV} {sc : ST} {K : KK} {pc : Nat} {ls ls' : List (Nat × AV)} {st : List AV} {hi hl : HI} {cs ss : Nat} {Q : QT}
theorem V.getG (hin : ∀ c, c < 9 → ∀ w ∈ u_ws (Rn c) (Tn c) (nF c), w ∈ GT) {o idx c f : Nat} {v : AV} (hf : FL e.1.cls idx c f) (hd : decode e.2.1 pc = .ok (.getfield idx, 3)) (hsh : K.1[o]? = some (.inr c)) (hc : c < 9) (hfn : f < nF c)
    (hv : ∀ ad, fldV ad (K.2 o f) (hi o f) (hl o f) (fkO (tyOf c f)) = cv ad v) (hok : wfH hi hl → wfK K → okV K.1.length v) (k : V e sc K (pc + 3) ls (v :: st) hi hl cs ss Q) : V e sc K pc ls (vR o :: st) hi hl cs ss Q := by
  intro N0 ad0 p l env s m args below meth c0 A dC dI dA Qs hS H locs ad lsA hW hD
  obtain ⟨hx, hb, hml, hown, hts, hnw, hK, hnm, hA, hsc, hR⟩ := id hS
  have h := k N0 ad0 p l env s m args below meth c0 A dC dI dA Qs hS H locs ad lsA hW (hD.sk (ok_cons (hok hW.2.2.2.1 hW.2.2.2.2.1) hD.tl))
  have hv' := flds_at (ad := ad) (K := K) (hi := hi) (hl := hl) (o := o) hfn
  rw [hv ad] at hv'
  rcases hf with hf | ⟨host, hf⟩
  · exact va_get hx hb hts (hin c hc) hown hK hW.1 o (conc_at hsh) (cl_at hc) f hfn (hts _ hf) (fun _ h9 => h9) hv' hd h
  · exact va_getN hx hb hts (hin c hc) hown hK hW.1 o (conc_at hsh) (cl_at hc) f hfn (va_Nw.use rfl (hnw.1 _ hf)) (fun _ h9 => h9) hv' hd h
theorem V.putG (hin : ∀ c, c < 9 → ∀ w ∈ u_ws (Rn c) (Tn c) (nF c), w ∈ GT) {o idx c f : Nat} {v : AV} {hi' hl' : HI} (hf : FL e.1.cls idx c f) (hd : decode e.2.1 pc = .ok (.putfield idx, 3)) (hsh : K.1[o]? = some (.inr c)) (hc : c < 9) (hfn : f < nF c) (hfin : (Tn c f).2.2.2 = false)
    (hn : ∀ ad, narrow (tyOf c f) (cv ad v) = cv ad v) (hfit : ∀ ad, fits (tyOf c f) (cv ad v) = true) (hv : ∀ ad, cv ad v = fldV ad (K.2 o f) (hi' o f) (hl' o f) (fkO (tyOf c f))) (hh1 : ∀ j, j ≠ f → hi' o j = hi o j) (hl1 : ∀ j, j ≠ f → hl' o j = hl o j) (hh2 : ∀ x, x ≠ o → hi' x = hi x) (hl2 : ∀ x, x ≠ o → hl' x = hl x) (hwf : wfH hi hl → okV K.1.length v → wfH hi' hl')
    (k : V e sc K (pc + 3) ls st hi' hl' cs ss Q) : V e sc K pc ls (v :: vR o :: st) hi hl cs ss Q := by
  intro N0 ad0 p l env s m args below meth c0 A dC dI dA Qs hS H locs ad lsA hW hD
  obtain ⟨hx, hb, hml, hown, hts, hnw, hK, hnm, hA, hsc, hR⟩ := id hS
  have es := conc_set (dA := dA) (ad := ad) (K := K) (K' := K) (hi := hi) (hl := hl) (hi' := hi') (hl' := hl') hsh rfl (fun _ _ => rfl) hh2 hl2
  have ef := flds_set (ad := ad) (K := K) (K' := K) (hi := hi) (hl := hl) (hi' := hi') (hl' := hl') (o := o) hfn (hv ad) (fun _ _ => rfl) hh1 hl1
  have hvo : okV K.1.length v := hD.hd
  have fin : ∀ (H1 : Heap) (locs1 : List Loc), va_P (dC, dI) vwCl ((conc dA ad K hi hl).set o (ad o, .inr (c, ((List.range (nF c)).map (fun f => fldV ad (K.2 o f) (hi o f) (hl o f) (fkO (tyOf c f)))).set f (cv ad v)))) H1 → va_D A ((conc dA ad K hi hl).set o (ad o, .inr (c, ((List.range (nF c)).map (fun f => fldV ad (K.2 o f) (hi o f) (hl o f) (fkO (tyOf c f)))).set f (cv ad v)))) → va_S A s.heap H1 locs1 → W p l env e.2.2.2.2 s m args below meth c0 H1 locs1 cs ss Qs (F0 m (pc + 3) lsA (st.map (cv ad))) := by
    intro H1 locs1 hP1 hD1 hS1
    rw [ef] at hP1 hD1
    have es2 := es
    unfold cellOf at es2
    rw [es2] at hP1 hD1
    exact k N0 ad0 p l env s m args below meth c0 A dC dI dA Qs hS H1 locs1 ad lsA ⟨hP1, hD1, hS1, hwf hW.2.2.2.1 hvo, hW.2.2.2.2⟩ (hD.sk (List.forall_mem_cons.mp hD.tl).2)
  rcases hf with hf | ⟨host, hf⟩
  · exact va_put hx hb hts (hin c hc) (tyOf c) (tyOf_ok hc) (nm_ok hc) hown hK hW.1 hW.2.1 hW.2.2.1 o (conc_at hsh) (cl_at hc) f hfn (hts _ hf) (fun _ h9 => h9) hfin (tyOf_ok hc f hfn) (hn ad) (hfit ad) (by simp [hfn]) hd fin
  · exact va_putN hx hb hts (hin c hc) (tyOf c) (tyOf_ok hc) (nm_ok hc) hown hK hW.1 hW.2.1 hW.2.2.1 o (conc_at hsh) (cl_at hc) f hfn (va_Nw.use rfl (hnw.1 _ hf)) (fun _ h9 => h9) hfin (tyOf_ok hc f hfn) (hn ad) (hfit ad) (by simp [hfn]) hd fin
/-- a final field of reference type, in its class's constructor -/
theorem V.putR (hin : ∀ c, c < 9 → ∀ w ∈ u_ws (Rn c) (Tn c) (nF c), w ∈ GT) {o t idx c f : Nat} (hf : Cond.fieldLink e.1.cls idx (Tn c f).1 (Tn c f).2.1 (Tn c f).2.2.1 ∈ GT) (hd : decode e.2.1 pc = .ok (.putfield idx, 3)) (hsh : K.1[o]? = some (.inr c)) (hc : c < 9) (hfn : f < nF c) (hfin : (Tn c f).2.2.2 = true) (hdecl : (Tn c f).1 = e.1.cls) (hini : e.1.name = "<init>") (hk : fkO (tyOf c f) = 2)
    (hn : ∀ a, narrow (tyOf c f) (.ref a) = .ref a) (hfit : ∀ a, fits (tyOf c f) (.ref a) = true) (ht : t < K.1.length) (k : V e sc (K.1, up2 K.2 o f (some t)) (pc + 3) ls st hi hl cs ss Q) : V e sc K pc ls (vR t :: vR o :: st) hi hl cs ss Q := by
  intro N0 ad0 p l env s m args below meth c0 A dC dI dA Qs hS H locs ad lsA hW hD
  obtain ⟨hx, hb, hml, hown, hts, hnw, hK, hnm, hA, hsc, hR⟩ := id hS
  have es := conc_set (dA := dA) (ad := ad) (K := K) (K' := (K.1, up2 K.2 o f (some t))) (hi := hi) (hl := hl) (hi' := hi) (hl' := hl) hsh rfl (fun x hx => up2_a hx) (fun _ _ => rfl) (fun _ _ => rfl)
  have ef := flds_set (ad := ad) (K := K) (K' := (K.1, up2 K.2 o f (some t))) (hi := hi) (hl := hl) (hi' := hi) (hl' := hl) (o := o) (v := cv ad (vR t)) hfn (by rw [hk]; simp [up2, fldV, va_rf, cv]) (fun j hj => up2_j hj) (fun _ _ => rfl) (fun _ _ => rfl)
  refine va_putF hx hb hts (hin c hc) (tyOf c) (tyOf_ok hc) (nm_ok hc) hown hK hW.1 hW.2.1 hW.2.2.1 o (conc_at hsh) (cl_at hc) f hfn (hts _ hf) (fun _ h9 => h9) hfin (hnm.trans hini) hdecl (tyOf_ok hc f hfn) (hn _) (hfit _) (by simp [hfn]) hd (fun H1 locs1 hP1 hD1 hS1 => ?_)
  rw [ef] at hP1 hD1
  have es2 := es
  unfold cellOf at es2
  rw [es2] at hP1 hD1
  refine k N0 ad0 p l env s m args below meth c0 A dC dI dA Qs hS H1 locs1 ad lsA ⟨hP1, hD1, hS1, hW.2.2.2.1, ⟨fun a j u ha hu => ?_, hW.2.2.2.2.1.2⟩, hW.2.2.2.2.2⟩ (hD.sk (List.forall_mem_cons.mp hD.tl).2)
  by_cases hq : a = o ∧ j = f
  · rw [hq.1, hq.2] at hu
    simp only [up2_s] at hu
    cases hu
    exact ht
  · have hu2 : K.2 a j = some u := by rw [← up2_n (h := K.2) (v := some t) hq]; exact hu
    exact hW.2.2.2.2.1.1 a j u ha hu2
theorem V.ret (r : Option AV) (hr : retI e pc r) (q : Q r K hi hl) : V e sc K pc ls r.toList hi hl cs ss Q := by
  intro N0 ad0 p l env s m args below meth c0 A dC dI dA Qs hS H locs ad lsA hW hD
  obtain ⟨hx, hb, hml, hown, hts, hnw, hK, hnm, hA, hsc, hR⟩ := id hS
  refine W.widen hD.2.2.2.1 hD.2.2.2.2 (hR r K hi hl H locs ad pc lsA q hW (fun v hv => ?_) hr)
  subst hv
  exact hD.2.2.1 v List.mem_cons_self
theorem V.iret {z : Int} (hd : decode e.2.1 pc = .ok (.ireturn, 1)) (ht : e.2.2.2.1 = some .int) (q : Q (some (vI z)) K hi hl) : V e sc K pc ls [vI z] hi hl cs ss Q := V.ret (some (vI z)) ⟨hd, Or.inl ht⟩ q
theorem V.zret {z : Int} (hd : decode e.2.1 pc = .ok (.ireturn, 1)) (ht : e.2.2.2.1 = some .boolean) (hz : z = 0 ∨ z = 1) (q : Q (some (vI z)) K hi hl) : V e sc K pc ls [vI z] hi hl cs ss Q := V.ret (some (vI z)) ⟨hd, Or.inr ⟨ht, hz⟩⟩ q
theorem V.lret {z : Int} (hd : decode e.2.1 pc = .ok (.lreturn, 1)) (ht : e.2.2.2.1 = some .long) (q : Q (some (vL z)) K hi hl) : V e sc K pc ls [vL z] hi hl cs ss Q := V.ret (some (vL z)) ⟨hd, ht⟩ q
theorem V.vret (hd : decode e.2.1 pc = .ok (.return_, 1)) (ht : e.2.2.2.1 = none) (q : Q none K hi hl) : V e sc K pc ls [] hi hl cs ss Q := V.ret none ⟨hd, ht⟩ q
end VRules2
/-! contracts -/
def PreW (dC : Nat → ClassId) (dI : Nat → Nat → Nat) (dA : Nat → ClassId) (ad : Nat → Nat) (K : KK) (hi hl : HI) (sz : Nat) (U : State) : Prop :=
  U.heap.size = sz ∧ va_P (dC, dI) vwCl (conc dA ad K hi hl) U.heap ∧ va_K (dC, dI) vwCl (tysOf dA) U ∧ va_D (fun _ => True) (conc dA ad K hi hl) ∧ NWs dA U ∧ SZ (va_A (conc dA ad K hi hl) sz) U
def QG (dC : Nat → ClassId) (dI : Nat → Nat → Nat) (dA : Nat → ClassId) (ad : Nat → Nat) (K : KK) (A : Nat → Prop) (Q : QT) : Array Value → State → Outcome → State → Prop := fun _ st oc t =>
  (∃ (r : Option AV) (K1 : KK) (hi1 hl1 : HI) (ad1 : Nat → Nat), oc = .returned (r.map (cv ad1)) ∧ Q r K1 hi1 hl1 ∧ okR K1.1.length r ∧ K.1.length ≤ K1.1.length ∧ (∀ k, k < K.1.length ∨ k = SC → ad1 k = ad k) ∧ va_P (dC, dI) vwCl (conc dA ad1 K1 hi1 hl1) t.heap ∧ va_D A (conc dA ad1 K1 hi1 hl1) ∧ wfH hi1 hl1 ∧ wfK K1) ∧ va_F A st t
def Con (e : EV) (args : List AV) (K : KK) (hi hl : HI) (Q : QT) : Prop :=
  (∀ v ∈ args, okV K.1.length v) → wfK K → wfH hi hl → ∀ (l : Launch) (dC : Nat → ClassId) (dI : Nat → Nat → Nat) (dA : Nat → ClassId) (ad : Nat → Nat) (sz : Nat),
    Met l e.1 (Cond.code e.1 e.2.1 e.2.2.1 e.2.2.2.1 :: GT) e.2.2.2.2 (va_Pc (args.map (cv ad)) (PreW dC dI dA ad K hi hl sz)) (QG dC dI dA ad K (va_A (conc dA ad K hi hl) sz) Q) e.2.2.2.2.cells e.2.2.2.2.slots (va_A (conc dA ad K hi hl) sz)
def aw : AV → Nat := fun v => if isL v then 2 else 1
def avA : Nat → List AV → List (Nat × AV)
  | _, [] => []
  | i, v :: vs => (i, v) :: avA (i + aw v) vs
def avW : List AV → Nat
  | [] => 0
  | v :: vs => aw v + avW vs
theorem avA_C (ad : Nat → Nat) : ∀ (vs : List AV) (i : Nat), lv_args i (vs.map (cv ad)) = lsC ad (avA i vs)
  | [], _ => rfl
  | v :: vs, i => by
    have e : (i + aw v) = if (cv ad v).category = 2 then i + 2 else i + 1 := by rw [cv_cat]; unfold aw; cases isL v <;> rfl
    show lv_args i (cv ad v :: vs.map (cv ad)) = (i, cv ad v) :: lsC ad (avA (i + aw v) vs)
    rw [← avA_C ad vs, e]
    rfl
theorem avW_C (ad : Nat → Nat) : ∀ (vs : List AV), (lg_sl (vs.map (cv ad))).length = avW vs
  | [] => rfl
  | v :: vs => by
    have h := avW_C ad vs
    unfold lg_sl at h ⊢
    rw [List.map_cons, List.flatMap_cons, List.length_append, h, cv_cat]
    show _ = aw v + avW vs
    unfold aw
    cases isL v <;> rfl
theorem avA_ok {N : Nat} : ∀ (vs : List AV) (i : Nat), (∀ v ∈ vs, okV N v) → ∀ q ∈ avA i vs, okV N q.2
  | [], _, _, q, hq => by cases hq
  | v :: vs, i, h, q, hq => by
    rcases List.mem_cons.mp hq with h1 | h1
    · rw [h1]; exact h v List.mem_cons_self
    · exact avA_ok vs _ (fun x hx => h x (List.mem_cons_of_mem _ hx)) q h1
set_option maxHeartbeats 4000000 in
theorem Con.ofV {e : EV} {args : List AV} {K : KK} {hi hl : HI} {Q : QT} (hpl : plainName e.1.cls = true) (hlen : avW args ≤ e.2.2.1) (h : V e none K 0 (avA 0 args) [] hi hl 0 0 Q) : Con e args K hi hl Q := by
  intro hargs hwK hwH l dC dI dA ad sz
  refine Met.ofW (cc := e.2.1) (maxL := e.2.2.1) (ret := e.2.2.2.1) hpl rfl ?_
  intro p env s m args0 below meth c s₁ B hml hv
  obtain ⟨rfl, hsz, hP, hK, hD0, hnw, hst⟩ := hv
  subst hsz
  have hr := B.returns
  have hlk := B.notSynchronized
  have hx := B.exec
  have hb := B.bytes
  have hts := atoms_spec (ws := Cond.code e.1 e.2.1 e.2.2.1 e.2.2.2.1 :: GT) B.pre
  have hD := hD0.self (sz := s.heap.size)
  have hl0 := lv_entry (args.map (cv ad)) (n := e.2.2.1) (by rw [avW_C]; exact hlen)
  rw [lg_entry_eq]
  rw [avA_C] at hl0
  refine h K.1.length ad p l env s m _ below meth c (va_A (conc dA ad K hi hl) s.heap.size) dC dI dA _ ⟨hx, hb, hml, findClass_of_methodNamed B.named, fun w hw => hts w (List.mem_cons_of_mem _ hw), hnw, hK, (name_of_methodNamed B.named B.method).1, fun q hq => Or.inr hq, ⟨hst, trivial⟩, ?_⟩ s.heap [] ad _ ⟨hP, hD, va_S.rf, hwH, hwK, Nat.le_refl _, fun _ _ => rfl⟩ ⟨hl0, avA_ok args 0 hargs, (fun v hv => by cases hv), Nat.zero_le _, Nat.zero_le _⟩
  intro r K1 hi1 hl1 H1 locs1 ad1 pc1 lsA1 hq hW hok hret
  have hfin : ∀ t : State, t.heap = H1 → QG dC dI dA ad K (va_A (conc dA ad K hi hl) s.heap.size) Q (args.map (cv ad)).toArray s (.returned (r.map (cv ad1))) t := fun t ht =>
    ⟨⟨r, K1, hi1, hl1, ad1, rfl, hq, hok, hW.2.2.2.2.2.1, hW.2.2.2.2.2.2, by rw [ht]; exact hW.1, hW.2.1, hW.2.2.2.1, hW.2.2.2.2.1⟩, hW.2.2.1.F ht⟩
  rcases r with _ | (z | z | r)
  · exact W.vret hx hb (hr.trans hret.2) (fun t ht _ => hfin t ht) hW.2.2.1.2.2 hret.1 (hlocks := hlk)
  · rcases hret.2 with h1 | ⟨h1, h2⟩
    · exact W.iret hx hb (hr.trans h1) (fun t ht _ => hfin t ht) hW.2.2.1.2.2 hret.1 (hlocks := hlk)
    · exact W.zret hx hb (hr.trans h1) (by rcases h2 with rfl | rfl <;> decide +kernel) (fun t ht _ => hfin t ht) hW.2.2.1.2.2 hret.1 (hlocks := hlk)
  · exact W.lret hx hb (hr.trans hret.2) (fun t ht _ => hfin t ht) hW.2.2.1.2.2 hret.1 (hlocks := hlk)
  · exact hret.elim
/-- what is asked of a method's own data once: its code among the words, its class, its parameters' number -/
def MF (e : EV) (n : Nat) : Prop := Cond.code e.1 e.2.1 e.2.2.1 e.2.2.2.1 ∈ GT ∧ Cond.initialized e.1.cls ∈ GT ∧ plainName e.1.cls = true ∧ (e.1.cls ≠ "java/lang/invoke/MethodHandle" ∧ e.1.cls ≠ "java/lang/invoke/VarHandle") ∧ (parseMethodDescriptor e.1.desc).map (fun d => d.parameters.length) = some n
def ML (own : String) (idx : Nat) (y : MethodName) : Prop := Cond.methodLink own idx y ∈ GT ∨ ∃ host, Cond.methodLinkNest own idx y host ∈ NT
theorem GT_good (ws : List Cond) (h : ∀ w ∈ ws, w ∈ GT) : GoodIn GT ws := fun w hw => ⟨h w hw, good_GT (h w hw)⟩
section VCalls
variable {e e1 : EV} {sc : ST} {K : KK} {pc : Nat} {ls : List (Nat × AV)} {st stk as : List AV} {hi hl : HI} {cs ss : Nat} {Q : QT}
abbrev QN (e e1 : EV) (sc : ST) (pc : Nat) (ls : List (Nat × AV)) (st : List AV) (cs ss : Nat) (Q : QT) : QT := fun r K1 hi1 hl1 => V e sc K1 (pc + 3) ls (r.toList ++ st) hi1 hl1 (cs + e1.2.2.2.2.cells) (ss + e1.2.2.2.2.slots) Q
abbrev RM (e e1 : EV) (cs ss : Nat) : Prop := e1.2.2.2.2.frames + 1 ≤ e.2.2.2.2.frames ∧ 8 + (e1.2.2.1 + 11) + e1.2.2.2.2.locals ≤ e.2.2.2.2.locals ∧ cs + e1.2.2.2.2.cells ≤ e.2.2.2.2.cells ∧ ss + e1.2.2.2.2.slots ≤ e.2.2.2.2.slots
/-- what a callee may change, its caller may -/
theorem callA {N0 : Nat} {ad0 : Nat → Nat} {s : State} {A : Nat → Prop} {dC : Nat → ClassId} {dI : Nat → Nat → Nat} {dA : Nat → ClassId} (hA : ∀ q : Nat, s.heap.size ≤ q → A q)
    {H : Heap} {locs : List Loc} {ad : Nat → Nat} (hW : Wd A s dC dI dA N0 ad0 K hi hl ad H locs) : ∀ q, va_A (conc dA ad K hi hl) H.size q → A q :=
  va_free (wc := conc dA ad K hi hl) hW.2.1 hW.2.2.1 hA (List.range (conc dA ad K hi hl).length) (by
    apply List.ext_getElem?
    intro k
    rw [List.getElem?_map, List.getElem?_map]
    by_cases hk : k < (conc dA ad K hi hl).length
    · rw [List.getElem?_range hk]
      simp [List.getElem?_eq_getElem hk]
    · rw [List.getElem?_eq_none (by simpa using hk), List.getElem?_eq_none (by simpa using hk)]; rfl)
theorem call_end {N0 : Nat} {ad0 : Nat → Nat} {p : Program} {l : Launch} {env : Env} {s : State} {m : MethodId} {args : Array Value} {below : List Frame} {meth : Method} {c : Code} {A : Nat → Prop} {dC : Nat → ClassId} {dI : Nat → Nat → Nat} {dA : Nat → ClassId} {Qs : State → Prop} (hS : Cst e sc Q N0 ad0 p l env s m args below meth c A dC dI dA Qs)
    {H : Heap} {locs : List Loc} {ad : Nat → Nat} {lsA : Array Slot} (hW : Wd A s dC dI dA N0 ad0 K hi hl ad H locs) (hD : Cdy e K.1.length ls stk cs ss ad lsA) (hst : ∀ v ∈ st, okV K.1.length v) (hroom : RM e e1 cs ss) {st0 : List Value} {a : Array Value}
    (hr : va_Run p l env e.2.2.2.2 s m args below meth c H locs cs ss e1.2.2.2.2.cells e1.2.2.2.2.slots (F0 m pc lsA st0) (st.map (cv ad)) (QG dC dI dA ad K (va_A (conc dA ad K hi hl) H.size) (QN e e1 sc pc ls st cs ss Q) a) (va_A (conc dA ad K hi hl) H.size)) :
    W p l env e.2.2.2.2 s m args below meth c H locs cs ss Qs (F0 m pc lsA st0) := by
  have hA := hS.2.2.2.2.2.2.2.2.1
  have hF : ∀ q, va_A (conc dA ad K hi hl) H.size q → A q := callA hA hW
  intro T hT X
  obtain ⟨v, st₀, t, T', L, h0, X', hL, e1h, e2h, ⟨⟨r, K1, hi1, hl1, ad1, hv, hq, hok, hN, hext, hP1, hD1, hwH1, hwK1⟩, hz, hk⟩, stp⟩ := hr T hT X
  cases hv
  rw [h0] at hz hk
  have hcv : ∀ v, okV K.1.length v → cv ad1 v = cv ad v := fun v hv => cv_ext hext hv
  have hls : lsC ad1 ls = lsC ad ls := by
    unfold lsC
    apply List.map_congr_left
    intro q hq
    rw [hcv q.2 (hD.2.1 q hq)]
  have hstm : (r.toList ++ st).map (cv ad1) = (r.map (cv ad1)).toList ++ st.map (cv ad) := by
    rw [List.map_append]
    congr 1
    · cases r <;> rfl
    · exact List.map_congr_left (fun v hv => hcv v (hst v hv))
  have hkk := hq N0 ad0 p l env s m args below meth c A dC dI dA Qs hS T'.heap (locs ++ L) ad1 lsA
    ⟨by rw [e1h]; exact hP1, hD1.weaken (fun k q _ h => hF q.1 h), ⟨Nat.le_trans hW.2.2.1.1 (by rw [e1h]; exact hz), fun q h1 h2 => by rw [e1h, hk q (Nat.lt_of_lt_of_le h1 hW.2.2.1.1) (fun z => h2 (hF q z))]; exact hW.2.2.1.2.1 q h1 h2, fun q hq => by
      rcases List.mem_append.mp hq with h | h
      · exact hW.2.2.1.2.2 q h
      · exact hF _ (hL q h)⟩, hwH1, hwK1, Nat.le_trans hW.2.2.2.2.2.1 hN, fun k hk => (hext k (hk.imp (fun q => Nat.lt_of_lt_of_le q hW.2.2.2.2.2.1) id)).trans (hW.2.2.2.2.2.2 k hk)⟩
    ⟨by rw [hls]; exact hD.1, fun q hq => okV_mono hN (hD.2.1 q hq), fun v hv => by
      rcases List.mem_append.mp hv with h | h
      · cases r with
        | none => cases h
        | some x =>
          rw [List.mem_singleton.mp h]
          exact hok x rfl
      · exact okV_mono hN (hst v h), hroom.2.2.1, hroom.2.2.2⟩
  rw [hstm] at hkk
  obtain ⟨t2, a1, b1⟩ := hkk T' rfl X'
  exact ⟨t2, stp t2 a1, b1⟩
theorem pre_blind {dC : Nat → ClassId} {dI : Nat → Nat → Nat} {dA : Nat → ClassId} {ad : Nat → Nat} {av : List Value} {sz : Nat} : FrameBlind (va_Pc av (PreW dC dI dA ad K hi hl sz)) := fun a U g mk q => by
  obtain ⟨q0, q1, q2, q3, q4, q5, q6⟩ := q
  exact ⟨q0, q1, q2, va_K.moved (u := U) (U := U.calling g mk a) (Vm.Alike.refl U.vm) q3, q4, q5.calling, q6.calling⟩
theorem pre_ok {N0 : Nat} {ad0 : Nat → Nat} {p : Program} {l : Launch} {env : Env} {s : State} {m : MethodId} {args : Array Value} {below : List Frame} {meth : Method} {c : Code} {A : Nat → Prop} {dC : Nat → ClassId} {dI : Nat → Nat → Nat} {dA : Nat → ClassId} {Qs : State → Prop} (hS : Cst e sc Q N0 ad0 p l env s m args below meth c A dC dI dA Qs)
    {H : Heap} {locs : List Loc} {ad : Nat → Nat} (hW : Wd A s dC dI dA N0 ad0 K hi hl ad H locs) {av : List Value} : ∀ U : State, U.heap = H → s.WarmedH U.vm → va_Pc av (PreW dC dI dA ad K hi hl H.size) av.toArray U := fun U hU hWm => by
  obtain ⟨hx, hb, hml, hown, hts, hnw, hK, hnm, hA, hsc, hR⟩ := hS
  exact ⟨rfl, by rw [hU], by rw [hU]; exact hW.1, va_K.moved hWm.alike hK, hW.2.1.weaken (fun _ _ _ _ => trivial), hnw.warm hWm, hsc.1.call hWm hU hW.2.2.1 (callA hA hW)⟩
theorem codeIn {n : Nat} (h : MF e1 n) : ∀ w ∈ Cond.code e1.1 e1.2.1 e1.2.2.1 e1.2.2.2.1 :: GT, w ∈ GT := fun w hw => by
  rcases List.mem_cons.mp hw with q | q
  · rw [q]; exact h.1
  · exact q
theorem pay_GT {n : Nat} (hm : MF e1 n) {s : State} {args : Array Value} (hts : ∀ w ∈ GT, w.before args s = true) : ∀ w ∈ Cond.code e1.1 e1.2.1 e1.2.2.1 e1.2.2.2.1 :: GT, ∀ (a' : Array Value) (U : State), s.WarmedH U.vm → w.before a' U = true := fun w hw a' U hWm => word_at hWm (good_GT (codeIn hm w hw)) (hts w (codeIn hm w hw))
set_option maxHeartbeats 1000000 in
theorem V.callV {o idx c : Nat} (n : Nat) (as : List AV) (st : List AV) (hm : MF e1 n) (hsel : Cond.instanceMethod e1.1 ∈ GT ∧ Cond.selects e1.1.cls e1.1 e1.1 ∈ GT) (hl2 : ML e.1.cls idx e1.1) (hd : decode e.2.1 pc = .ok (.invokevirtual idx, 3)) (hsh : K.1[o]? = some (.inr c)) (hc : c < 9) (hcn : Rn c = e1.1.cls) (hn : as.length = n) (hstk : stk = as.reverse ++ vR o :: st) (hcat : (st.map aw).sum ≤ 8) (hroom : RM e e1 cs ss)
    (k : Con e1 (vR o :: as) K hi hl (QN e e1 sc pc ls st cs ss Q)) : V e sc K pc ls stk hi hl cs ss Q := by
  subst hstk
  intro N0 ad0 p l env s m args below meth c0 A dC dI dA Qs hS H locs ad lsA hW hD
  obtain ⟨hx, hb, hml, hown, hts, hnw, hK, hnm, hA, hsc, hR⟩ := id hS
  have hso : ∀ v ∈ st, okV K.1.length v := fun v hv => hD.2.2.1 v (List.mem_append_right _ (List.mem_cons_of_mem _ hv))
  have hao : ∀ v ∈ vR o :: as, okV K.1.length v := fun v hv => by
    rcases List.mem_cons.mp hv with q | q
    · rw [q]; exact hD.2.2.1 _ (List.mem_append_right _ List.mem_cons_self)
    · exact hD.2.2.1 v (List.mem_append_left _ (List.mem_reverse.mpr q))
  have hMet := k hao hW.2.2.2.2.1 hW.2.2.2.1 l dC dI dA ad H.size
  have hrec := va_recv hK hW.1 (cl_at hc) (conc_at hsh)
  have hstack : (as.reverse ++ vR o :: st).map (cv ad) = (as.map (cv ad)).reverse ++ .ref (ad o) :: st.map (cv ad) := by simp [cv]
  have hcs : ((st.map (cv ad)).map fun v => v.category).sum ≤ 8 := by
    rw [List.map_map]
    have : (st.map ((fun v => v.category) ∘ cv ad)) = st.map aw := List.map_congr_left (fun v _ => cv_cat ad v)
    rw [this]; exact hcat
  rw [hstack]
  refine call_end (e1 := e1) (st := st) hS hW hD hso hroom (a := (Value.ref (ad o) :: as.map (cv ad)).toArray) ?_
  have hcn2 : s.vm.findClass e1.1.cls = s.vm.findClass (Rn c) := by rw [hcn]
  rcases hl2 with hl2 | ⟨host, hl2⟩
  · exact va_runV (As := as.map (cv ad)) (n := n) (ret := e1.2.2.2.1) (C := e1.1.cls) (Ts := GT) ⟨hx, hb, hml, hown, hts⟩ hMet ⟨⟨rfl, rfl, hroom.1, hroom.2.1, pay_GT hm hts, List.mem_cons_self, hts _ hm.1, hts _ hm.2.1, hm.2.2.2.1, fun sig h => by have h2 := hm.2.2.2.2; rw [h] at h2; exact (Option.some.inj h2).symm, hts _ hl2⟩, hts _ hsel.1, hts _ hsel.2⟩ ⟨pre_blind, by rw [← hcn]; exact hrec, pre_ok hS hW⟩ rfl (by simpa using hn) hD.1.1 rfl (lv_room hcs) hd ⟨hroom.2.2.1, hroom.2.2.2⟩
  · exact va_runVN (As := as.map (cv ad)) (n := n) (ret := e1.2.2.2.1) (C := e1.1.cls) (Ts := GT) ⟨hx, hb, hml, hown, hts⟩ hMet ⟨⟨⟨rfl, rfl, hroom.1, hroom.2.1, pay_GT hm hts, List.mem_cons_self⟩, hts _ hm.1, hts _ hm.2.1, hm.2.2.2.1, fun sig h => by have h2 := hm.2.2.2.2; rw [h] at h2; exact (Option.some.inj h2).symm, va_Nw.use rfl (hnw.1 _ hl2)⟩, hts _ hsel.1, hts _ hsel.2⟩ ⟨pre_blind, by rw [← hcn]; exact hrec, pre_ok hS hW⟩ rfl (by simpa using hn) hD.1.1 rfl (lv_room hcs) hd ⟨hroom.2.2.1, hroom.2.2.2⟩
set_option maxHeartbeats 1000000 in
theorem V.callS {idx : Nat} (n : Nat) (as : List AV) (st : List AV) (hm : MF e1 n) (hsel : Cond.static e1.1 ∈ GT) (hl2 : ML e.1.cls idx e1.1) (hd : decode e.2.1 pc = .ok (.invokestatic idx, 3)) (hn : as.length = n) (hstk : stk = as.reverse ++ st) (hcat : (st.map aw).sum ≤ 8) (hroom : RM e e1 cs ss)
    (k : Con e1 as K hi hl (QN e e1 sc pc ls st cs ss Q)) : V e sc K pc ls stk hi hl cs ss Q := by
  subst hstk
  intro N0 ad0 p l env s m args below meth c0 A dC dI dA Qs hS H locs ad lsA hW hD
  obtain ⟨hx, hb, hml, hown, hts, hnw, hK, hnm, hA, hsc, hR⟩ := id hS
  have hso : ∀ v ∈ st, okV K.1.length v := fun v hv => hD.2.2.1 v (List.mem_append_right _ hv)
  have hao : ∀ v ∈ as, okV K.1.length v := fun v hv => hD.2.2.1 v (List.mem_append_left _ (List.mem_reverse.mpr hv))
  have hMet := k hao hW.2.2.2.2.1 hW.2.2.2.1 l dC dI dA ad H.size
  have hstack : (as.reverse ++ st).map (cv ad) = (as.map (cv ad)).reverse ++ st.map (cv ad) := by simp
  have hcs : ((st.map (cv ad)).map fun v => v.category).sum ≤ 8 := by
    rw [List.map_map]
    have : (st.map ((fun v => v.category) ∘ cv ad)) = st.map aw := List.map_congr_left (fun v _ => cv_cat ad v)
    rw [this]; exact hcat
  rw [hstack]
  refine call_end (e1 := e1) (st := st) hS hW hD hso hroom (a := (as.map (cv ad)).toArray) ?_
  rcases hl2 with hl2 | ⟨host, hl2⟩
  · exact va_runS (As := as.map (cv ad)) (n := n) (ret := e1.2.2.2.1) (Ts := GT) ⟨hx, hb, hml, hown, hts⟩ hMet ⟨⟨rfl, rfl, hroom.1, hroom.2.1, pay_GT hm hts, List.mem_cons_self, hts _ hm.1, hts _ hm.2.1, hm.2.2.2.1, fun sig h => by have h2 := hm.2.2.2.2; rw [h] at h2; exact (Option.some.inj h2).symm, hts _ hl2⟩, hts _ hsel⟩ ⟨pre_blind, pre_ok hS hW⟩ rfl (by simpa using hn) hD.1.1 rfl (lv_room hcs) hd ⟨hroom.2.2.1, hroom.2.2.2⟩
  · exact va_runSN (As := as.map (cv ad)) (n := n) (ret := e1.2.2.2.1) (Ts := GT) ⟨hx, hb, hml, hown, hts⟩ hMet ⟨⟨⟨rfl, rfl, hroom.1, hroom.2.1, pay_GT hm hts, List.mem_cons_self⟩, hts _ hm.1, hts _ hm.2.1, hm.2.2.2.1, fun sig h => by have h2 := hm.2.2.2.2; rw [h] at h2; exact (Option.some.inj h2).symm, va_Nw.use rfl (hnw.1 _ hl2)⟩, hts _ hsel, trivial⟩ ⟨pre_blind, pre_ok hS hW⟩ rfl (by simpa using hn) hD.1.1 rfl (lv_room hcs) hd ⟨hroom.2.2.1, hroom.2.2.2⟩
set_option maxHeartbeats 1000000 in
theorem V.callI {o idx : Nat} (n : Nat) (as : List AV) (st : List AV) (hm : MF e1 n) (hsel : Cond.instanceMethod e1.1 ∈ GT) (hname : e1.1.name = "<init>") (hret : e1.2.2.2.1 = none) (hl2 : ML e.1.cls idx e1.1) (hd : decode e.2.1 pc = .ok (.invokespecial idx, 3)) (hn : as.length = n) (hstk : stk = as.reverse ++ vR o :: st) (hcat : (st.map aw).sum ≤ 8) (hroom : RM e e1 cs ss)
    (k : Con e1 (vR o :: as) K hi hl (QN e e1 sc pc ls st cs ss Q)) : V e sc K pc ls stk hi hl cs ss Q := by
  subst hstk
  intro N0 ad0 p l env s m args below meth c0 A dC dI dA Qs hS H locs ad lsA hW hD
  obtain ⟨hx, hb, hml, hown, hts, hnw, hK, hnm, hA, hsc, hR⟩ := id hS
  have hso : ∀ v ∈ st, okV K.1.length v := fun v hv => hD.2.2.1 v (List.mem_append_right _ (List.mem_cons_of_mem _ hv))
  have hao : ∀ v ∈ vR o :: as, okV K.1.length v := fun v hv => by
    rcases List.mem_cons.mp hv with q | q
    · rw [q]; exact hD.2.2.1 _ (List.mem_append_right _ List.mem_cons_self)
    · exact hD.2.2.1 v (List.mem_append_left _ (List.mem_reverse.mpr q))
  have hMet := k hao hW.2.2.2.2.1 hW.2.2.2.1 l dC dI dA ad H.size
  have hstack : (as.reverse ++ vR o :: st).map (cv ad) = (as.map (cv ad)).reverse ++ .ref (ad o) :: st.map (cv ad) := by simp [cv]
  have hcs : ((st.map (cv ad)).map fun v => v.category).sum ≤ 8 := by
    rw [List.map_map]
    have : (st.map ((fun v => v.category) ∘ cv ad)) = st.map aw := List.map_congr_left (fun v _ => cv_cat ad v)
    rw [this]; exact hcat
  rw [hstack]
  refine call_end (e1 := e1) (st := st) hS hW hD hso hroom (a := (Value.ref (ad o) :: as.map (cv ad)).toArray) ?_
  have hcode : (Cond.code e1.1 e1.2.1 e1.2.2.1 none).before args s = true := by rw [← hret]; exact hts _ hm.1
  rcases hl2 with hl2 | ⟨host, hl2⟩
  · exact va_runI (As := as.map (cv ad)) (n := n) (bytes := e1.2.1) (maxL := e1.2.2.1) (Ts := GT) ⟨hx, hb, hml, hown, hts⟩ hMet ⟨⟨rfl, rfl, hroom.1, hroom.2.1, pay_GT hm hts, by rw [hret]; exact List.mem_cons_self, hcode, hts _ hm.2.1, hm.2.2.2.1, fun sig h => by have h2 := hm.2.2.2.2; rw [h] at h2; exact (Option.some.inj h2).symm, hts _ hl2⟩, hname, hts _ hsel⟩ ⟨pre_blind, pre_ok hS hW⟩ rfl (by simpa using hn) hD.1.1 rfl (lv_room hcs) hd ⟨hroom.2.2.1, hroom.2.2.2⟩
  · exact va_runIN (As := as.map (cv ad)) (n := n) (bytes := e1.2.1) (maxL := e1.2.2.1) (Ts := GT) ⟨hx, hb, hml, hown, hts⟩ hMet ⟨⟨⟨rfl, rfl, hroom.1, hroom.2.1, pay_GT hm hts, by rw [hret]; exact List.mem_cons_self⟩, hcode, hts _ hm.2.1, hm.2.2.2.1, fun sig h => by have h2 := hm.2.2.2.2; rw [h] at h2; exact (Option.some.inj h2).symm, va_Nw.use rfl (hnw.1 _ hl2)⟩, hname, hts _ hsel⟩ ⟨pre_blind, pre_ok hS hW⟩ rfl (by simpa using hn) hD.1.1 rfl (lv_room hcs) hd ⟨hroom.2.2.1, hroom.2.2.2⟩
theorem V.objI {o idx : Nat} (st : List AV) (hl2 : Cond.methodLink e.1.cls idx Lib.objectInit ∈ GT) (hin : Cond.instanceMethod Lib.objectInit ∈ GT) (hcd : Cond.code Lib.objectInit ⟨#[0xb1]⟩ 1 none ∈ GT) (hd : decode e.2.1 pc = .ok (.invokespecial idx, 3)) (hst : st = []) (hf : 1 ≤ e.2.2.2.2.frames) (hlo : 12 ≤ e.2.2.2.2.locals) (k : V e sc K (pc + 3) ls st hi hl cs ss Q) : V e sc K pc ls (vR o :: st) hi hl cs ss Q := by
  subst hst
  intro N0 ad0 p l env s m args below meth c0 A dC dI dA Qs hS H locs ad lsA hW hD
  obtain ⟨hx, hb, hml, hown, hts, hnw, hK, hnm, hA, hsc, hR⟩ := id hS
  exact W.objInit hx hb hown (hts _ hl2) (hts _ hin) (hts _ hcd) rfl (by rw [hml]; exact hD.1.1) rfl hd hf hlo (k N0 ad0 p l env s m args below meth c0 A dC dI dA Qs hS H locs ad lsA hW (hD.sk hD.tl))
theorem V.mmin {idx : Nat} {a b : Int} (r : Int) (hl2 : Cond.methodLink e.1.cls idx Lib.Math.min.name ∈ GT) (hst : Cond.static Lib.Math.min.name ∈ GT) (hini : Cond.initialized "java/lang/Math" ∈ GT) (hcd : Cond.code Lib.Math.min.name Lib.Math.min.code 2 (some .int) ∈ GT) (hd : decode e.2.1 pc = .ok (.invokestatic idx, 3)) (hf : 1 ≤ e.2.2.2.2.frames) (hlo : (st.map aw).sum + 13 ≤ e.2.2.2.2.locals) (hr : (if b < a then b else a) = r) (k : V e sc K (pc + 3) ls (vI r :: st) hi hl cs ss Q) : V e sc K pc ls (vI b :: vI a :: st) hi hl cs ss Q := by
  intro N0 ad0 p l env s m args below meth c0 A dC dI dA Qs hS H locs ad lsA hW hD
  obtain ⟨hx, hb, hml, hown, hts, hnw, hK, hnm, hA, hsc, hR⟩ := id hS
  have hbb : rI b := hD.hd
  have ha : rI a := (List.forall_mem_cons.mp hD.tl).1
  have hrr : rI r := by rw [← hr]; split <;> assumption
  have h := k N0 ad0 p l env s m args below meth c0 A dC dI dA Qs hS H locs ad lsA hW (hD.sk (ok_cons (v := vI r) hrr (List.forall_mem_cons.mp hD.tl).2))
  have hcs : ((st.map (cv ad)).map fun v => v.category).sum + 13 ≤ e.2.2.2.2.locals := by
    rw [List.map_map]
    have : (st.map ((fun v => v.category) ∘ cv ad)) = st.map aw := List.map_congr_left (fun v _ => cv_cat ad v)
    rw [this]; exact hlo
  refine va_mmin hx hb (by rw [hml]; exact hD.1.1.symm) hown (hts _ hl2) (hts _ hst) (hts _ hini) (hts _ hcd) hf hcs hD.2.2.2.1 hD.2.2.2.2 hd ?_
  have e9 : (if i32 b < i32 a then i32 b else i32 a) = i32 r := by
    rw [← hr]
    by_cases q : b < a
    · rw [if_pos q, if_pos ((i32_lt hbb ha).mpr q)]
    · rw [if_neg q, if_neg (fun h => q ((i32_lt hbb ha).mp h))]
  rw [e9]
  exact h
end VCalls
