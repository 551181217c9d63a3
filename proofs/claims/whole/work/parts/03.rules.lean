/-! V: from here (pc, locals, stack, world) the method comes to its end with Q. One rule an instruction. -/
abbrev EV : Type := MethodName × ByteArray × Nat × Option FieldType × Room
def isNest : Cond → Bool
  | .fieldLinkNest .. => true
  | .methodLinkNest .. => true
  | _ => false
def GT : List Cond := lw_tbl.filter goodWord
def NT : List Cond := lw_tbl.filter isNest
theorem gt_of {w : Cond} (i : Nat) (h : tables_1[i]? = some w) (g : goodWord w = true) : w ∈ GT := List.mem_filter.mpr ⟨List.mem_append_right _ (List.mem_of_getElem? h), g⟩
theorem gt_sel {q : MethodName × Nat} (i : Nat) (h : lw_privs[i]? = some q) : Cond.selects q.1.cls q.1 q.1 ∈ GT := List.mem_filter.mpr ⟨List.mem_append_left _ (List.mem_map.mpr ⟨q, List.mem_of_getElem? h, rfl⟩), rfl⟩
theorem nt_of {w : Cond} (i : Nat) (h : tables_1[i]? = some w) (g : isNest w = true) : w ∈ NT := List.mem_filter.mpr ⟨List.mem_append_right _ (List.mem_of_getElem? h), g⟩
theorem good_GT {w : Cond} (h : w ∈ GT) : (w.onTables && w.keeps) = true ∨ ∃ ty, w = .arrayClass ty := good_of_word (List.mem_filter.mp h).2
def MOv (cO cI : ClassId) (ty : FieldType) (U : State) : Prop := ∃ k : Class, U.vm.classes[cO]? = some k ∧ k.kind = .array cI (.array ty)
theorem MOv.moved {u U : State} (hvm : u.vm.Alike U.vm) {cO cI : ClassId} {ty : FieldType} (h : MOv cO cI ty u) : MOv cO cI ty U := by
  obtain ⟨k, h1, h2⟩ := h
  obtain ⟨k', hk', he⟩ := hvm.2.2 _ _ h1
  exact ⟨k', hk', by rw [he]; exact h2⟩
def NWs (dA : Nat → ClassId) (U : State) : Prop := (∀ w ∈ NT, va_Nw w U) ∧ va_AO "ParrotCourt$Court" U ∧ MOv (dA 4) (dA 0) .int U ∧ MOv (dA 5) (dA 1) .long U
theorem NWs.warm {dA : Nat → ClassId} {s U : State} (hW : s.WarmedH U.vm) (h : NWs dA s) : NWs dA U := by
  refine ⟨fun w hw => ?_, va_AO.moved hW.alike h.2.1, h.2.2.1.moved hW.alike, h.2.2.2.moved hW.alike⟩
  have h1 := h.1 w hw
  have h2 := (List.mem_filter.mp hw).2
  cases w <;> first | exact va_Nw.warmF hW h1 | exact va_Nw.warmM hW h1 | (simp [isNest] at h2)
theorem NWs.calling {dA : Nat → ClassId} {U : State} {g : JFrame} {mk : MethodId} {a : Array Value} (h : NWs dA U) : NWs dA (U.calling g mk a) := by
  have hv : U.vm.Alike (U.calling g mk a).vm := Vm.Alike.refl U.vm
  refine ⟨fun w hw => ?_, va_AO.moved hv h.2.1, h.2.2.1.moved hv, h.2.2.2.moved hv⟩
  have h1 := h.1 w hw
  have h2 := (List.mem_filter.mp hw).2
  cases w <;> first | exact va_Nw.same rfl rfl h1 | (simp [isNest] at h2)
/-- the world at an address map, and what has changed since the method's entry -/
def Wd (A : Nat → Prop) (s : State) (dC : Nat → ClassId) (dI : Nat → Nat → Nat) (dA : Nat → ClassId) (N0 : Nat) (ad0 : Nat → Nat) (K : KK) (hi hl : HI) (ad : Nat → Nat) (H : Heap) (locs : List Loc) : Prop :=
  va_P (dC, dI) vwCl (conc dA ad K hi hl) H ∧ va_D A (conc dA ad K hi hl) ∧ va_S A s.heap H locs ∧ wfH hi hl ∧ wfK K ∧ N0 ≤ K.1.length ∧ ∀ k, k < N0 ∨ k = SC → ad k = ad0 k
def retI (e : EV) (pc : Nat) : Option AV → Prop
  | none => decode e.2.1 pc = .ok (.return_, 1) ∧ e.2.2.2.1 = none
  | some (.inl z) => decode e.2.1 pc = .ok (.ireturn, 1) ∧ (e.2.2.2.1 = some .int ∨ (e.2.2.2.1 = some .boolean ∧ (z = 0 ∨ z = 1)))
  | some (.inr (.inl _)) => decode e.2.1 pc = .ok (.lreturn, 1) ∧ e.2.2.2.1 = some .long
  | some (.inr (.inr _)) => False
abbrev QT : Type := Option AV → KK → HI → HI → Prop
def okR (N : Nat) (r : Option AV) : Prop := ∀ v, r = some v → okV N v
def RetH (e : EV) (Q : QT) (N0 : Nat) (ad0 : Nat → Nat) (p : Program) (l : Launch) (env : Env) (s : State) (m : MethodId) (args : Array Value) (below : List Frame) (meth : Method) (c : Code) (A : Nat → Prop) (dC : Nat → ClassId) (dI : Nat → Nat → Nat) (dA : Nat → ClassId) (Qs : State → Prop) : Prop :=
  ∀ (r : Option AV) (K1 : KK) (hi1 hl1 : HI) (H1 : Heap) (locs1 : List Loc) (ad1 : Nat → Nat) (pc1 : Nat) (lsA1 : Array Slot), Q r K1 hi1 hl1 → Wd A s dC dI dA N0 ad0 K1 hi1 hl1 ad1 H1 locs1 → okR K1.1.length r → retI e pc1 r →
    W p l env e.2.2.2.2 s m args below meth c H1 locs1 e.2.2.2.2.cells e.2.2.2.2.slots Qs (F0 m pc1 lsA1 (r.toList.map (cv ad1)))
abbrev ST : Type := Option (Nat × (Nat → Int))
def scOK (sc : ST) (A : Nat → Prop) (s : State) (bS : Nat) : Prop := match sc with
  | none => True
  | some (L, xs) => va_X bS L (fun j => i32 (xs j)) s s.heap ∧ bS < s.heap.size ∧ ¬ A bS ∧ ∀ j, rI (xs j)
/-- the class's two static arrays, which nobody writes: outside of A, with their numbers -/
def tF (j : Nat) : Int := match j with | 0 => 0 | 1 => 1 | 2 => 4 | 3 => 13 | 4 => 40 | 5 => 121 | _ => 364
def tP (j : Nat) : Int := match j with | 0 => 1 | 1 => 3 | 2 => 9 | 3 => 27 | 4 => 81 | _ => 243
def SZ1 (n : String) (N : Nat) (f : Nat → Int) (A : Nat → Prop) (s : State) : Prop := ∃ t : Nat, va_Z "ParrotCourt" n "[I" (.ref t) A s s.heap ∧ va_T .int t N (fun j => .int (i32 (f j))) A s s.heap
theorem SZ1.call {n : String} {N : Nat} {f : Nat → Int} {A B : Nat → Prop} {s U : State} {H : Heap} {locs : List Loc} (h : SZ1 n N f A s) (hW : s.WarmedH U.vm) (hU : U.heap = H) (hS : va_S A s.heap H locs) (hAB : ∀ q, B q → A q) : SZ1 n N f B U := by
  obtain ⟨t, hZ, hT⟩ := h
  subst hU
  exact ⟨t, (((hZ.kept hS.2.1).moved hW.alike).narrow hAB), (((hT.kept hS.2.1).moved hW.alike).narrow hAB)⟩
theorem SZ1.calling {n : String} {N : Nat} {f : Nat → Int} {A : Nat → Prop} {U : State} {g : JFrame} {mk : MethodId} {a : Array Value} (h : SZ1 n N f A U) : SZ1 n N f A (U.calling g mk a) := by
  obtain ⟨t, hZ, hT⟩ := h
  have hv : U.vm.Alike (U.calling g mk a).vm := Vm.Alike.refl U.vm
  exact ⟨t, hZ.moved hv, hT.moved hv⟩
def SZ (A : Nat → Prop) (s : State) : Prop := SZ1 "FIRSTS" 7 tF A s ∧ SZ1 "POWERS" 6 tP A s
theorem SZ.call {A B : Nat → Prop} {s U : State} {H : Heap} {locs : List Loc} (h : SZ A s) (hW : s.WarmedH U.vm) (hU : U.heap = H) (hS : va_S A s.heap H locs) (hAB : ∀ q, B q → A q) : SZ B U := ⟨h.1.call hW hU hS hAB, h.2.call hW hU hS hAB⟩
theorem SZ.calling {A : Nat → Prop} {U : State} {g : JFrame} {mk : MethodId} {a : Array Value} (h : SZ A U) : SZ A (U.calling g mk a) := ⟨h.1.calling, h.2.calling⟩
def Cst (e : EV) (sc : ST) (Q : QT) (N0 : Nat) (ad0 : Nat → Nat) (p : Program) (l : Launch) (env : Env) (s : State) (m : MethodId) (args : Array Value) (below : List Frame) (meth : Method) (c : Code) (A : Nat → Prop) (dC : Nat → ClassId) (dI : Nat → Nat → Nat) (dA : Nat → ClassId) (Qs : State → Prop) : Prop :=
  p.tables.exec = Jvm.exec ∧ c.code = e.2.1 ∧ c.maxLocals = e.2.2.1 ∧ s.vm.findClass e.1.cls = some m.cls ∧ (∀ w ∈ GT, w.before args s = true) ∧ NWs dA s ∧ va_K (dC, dI) vwCl (tysOf dA) s ∧ meth.name = e.1.name ∧ (∀ q : Nat, s.heap.size ≤ q → A q) ∧ (SZ A s ∧ scOK sc A s (ad0 SC)) ∧ RetH e Q N0 ad0 p l env s m args below meth c A dC dI dA Qs
def lsC (ad : Nat → Nat) (ls : List (Nat × AV)) : List (Nat × Value) := ls.map (fun q => (q.1, cv ad q.2))
def Cdy (e : EV) (N : Nat) (ls : List (Nat × AV)) (st : List AV) (cs ss : Nat) (ad : Nat → Nat) (lsA : Array Slot) : Prop :=
  lv_has lsA e.2.2.1 (lsC ad ls) ∧ (∀ q ∈ ls, okV N q.2) ∧ (∀ v ∈ st, okV N v) ∧ cs ≤ e.2.2.2.2.cells ∧ ss ≤ e.2.2.2.2.slots
def V (e : EV) (sc : ST) (K : KK) (pc : Nat) (ls : List (Nat × AV)) (st : List AV) (hi hl : HI) (cs ss : Nat) (Q : QT) : Prop :=
  ∀ (N0 : Nat) (ad0 : Nat → Nat) (p : Program) (l : Launch) (env : Env) (s : State) (m : MethodId) (args : Array Value) (below : List Frame) (meth : Method) (c : Code) (A : Nat → Prop) (dC : Nat → ClassId) (dI : Nat → Nat → Nat) (dA : Nat → ClassId) (Qs : State → Prop), Cst e sc Q N0 ad0 p l env s m args below meth c A dC dI dA Qs →
  ∀ (H : Heap) (locs : List Loc) (ad : Nat → Nat) (lsA : Array Slot), Wd A s dC dI dA N0 ad0 K hi hl ad H locs → Cdy e K.1.length ls st cs ss ad lsA →
    W p l env e.2.2.2.2 s m args below meth c H locs cs ss Qs (F0 m pc lsA (st.map (cv ad)))
section VRules
variable {e : EV} {sc : ST} {K : KK} {pc : Nat} {ls ls' : List (Nat × AV)} {st : List AV} {hi hl : HI} {cs ss : Nat} {Q : QT}
theorem Cdy.sk {N : Nat} {ad : Nat → Nat} {lsA : Array Slot} {st' : List AV} (h : Cdy e N ls st cs ss ad lsA) (hs : ∀ v ∈ st', okV N v) : Cdy e N ls st' cs ss ad lsA := ⟨h.1, h.2.1, hs, h.2.2.2⟩
theorem Cdy.tl {N : Nat} {ad : Nat → Nat} {lsA : Array Slot} {v : AV} (h : Cdy e N ls (v :: st) cs ss ad lsA) : ∀ x ∈ st, okV N x := fun x hx => h.2.2.1 x (List.mem_cons_of_mem _ hx)
theorem Cdy.hd {N : Nat} {ad : Nat → Nat} {lsA : Array Slot} {v : AV} (h : Cdy e N ls (v :: st) cs ss ad lsA) : okV N v := h.2.2.1 v List.mem_cons_self
theorem ok_cons {N : Nat} {v : AV} (hv : okV N v) (hs : ∀ x ∈ st, okV N x) : ∀ x ∈ v :: st, okV N x := List.forall_mem_cons.mpr ⟨hv, hs⟩
theorem lsC_at {ad : Nat → Nat} {k i : Nat} {v : AV} (h : ls[k]? = some (i, v)) : (lsC ad ls)[k]? = some (i, cv ad v) := by simp [lsC, h]
theorem ls_ok {N : Nat} {k i : Nat} {v : AV} (h : ls[k]? = some (i, v)) (ho : ∀ q ∈ ls, okV N q.2) : okV N v := ho (i, v) (List.mem_of_getElem? h)
/-- locals behind a store of one place -/
def ast (l : List (Nat × AV)) (i : Nat) (v : AV) : List (Nat × AV) := (i, v) :: l.filter (fun q => !(q.1 == i) && !(q.1 + 1 == i && isL q.2))
def ast2 (l : List (Nat × AV)) (i : Nat) (v : AV) : List (Nat × AV) := (i, v) :: l.filter (fun q => !(q.1 == i) && (!(q.1 == i + 1) && !(q.1 + 1 == i && isL q.2)))
theorem cat2 (ad : Nat → Nat) (v : AV) : ((cv ad v).category == 2) = isL v := by rw [cv_cat]; cases isL v <;> rfl
theorem ast_C (ad : Nat → Nat) (l : List (Nat × AV)) (i : Nat) (v : AV) : (i, cv ad v) :: (lsC ad l).filter (fun q => !(q.1 == i) && !(q.1 + 1 == i && q.2.category == 2)) = lsC ad (ast l i v) := by
  unfold ast lsC
  rw [List.map_cons, List.filter_map]
  congr 2
  apply List.filter_congr
  intro q _
  simp only [Function.comp, cat2]
theorem ast2_C (ad : Nat → Nat) (l : List (Nat × AV)) (i : Nat) (v : AV) : (i, cv ad v) :: (lsC ad l).filter (fun q => !(q.1 == i) && (!(q.1 == i + 1) && !(q.1 + 1 == i && q.2.category == 2))) = lsC ad (ast2 l i v) := by
  unfold ast2 lsC
  rw [List.map_cons, List.filter_map]
  congr 2
  apply List.filter_congr
  intro q _
  simp only [Function.comp, cat2]
theorem ast_ok {N i : Nat} {v : AV} (hv : okV N v) (ho : ∀ q ∈ ls, okV N q.2) : ∀ q ∈ ast ls i v, okV N q.2 := fun q hq => by
  rcases List.mem_cons.mp hq with h | h
  · rw [h]; exact hv
  · exact ho q (List.mem_filter.mp h).1
theorem ast2_ok {N i : Nat} {v : AV} (hv : okV N v) (ho : ∀ q ∈ ls, okV N q.2) : ∀ q ∈ ast2 ls i v, okV N q.2 := fun q hq => by
  rcases List.mem_cons.mp hq with h | h
  · rw [h]; exact hv
  · exact ho q (List.mem_filter.mp h).1

theorem V.iconst {n z : Int} (hd : decode e.2.1 pc = .ok (.iconst n, 1)) (hz : n = z) (hr : rI z) (k : V e sc K (pc + 1) ls (vI z :: st) hi hl cs ss Q) : V e sc K pc ls st hi hl cs ss Q := by
  intro N0 ad0 p l env s m args below meth c A dC dI dA Qs hS H locs ad lsA hW hD
  obtain ⟨hx, hb, hml, hown, hts, hnw, hK, hnm, hA, hsc, hR⟩ := id hS
  exact lv_iconst hx hb hd (by rw [hz]; rfl) (k N0 ad0 p l env s m args below meth c A dC dI dA Qs hS H locs ad lsA hW (hD.sk (ok_cons hr hD.2.2.1)))

theorem V.bipush {n z : Int} (hd : decode e.2.1 pc = .ok (.bipush n, 2)) (hz : (Int8.ofInt n).toInt32 = i32 z) (hr : rI z) (k : V e sc K (pc + 2) ls (vI z :: st) hi hl cs ss Q) : V e sc K pc ls st hi hl cs ss Q := by
  intro N0 ad0 p l env s m args below meth c A dC dI dA Qs hS H locs ad lsA hW hD
  obtain ⟨hx, hb, hml, hown, hts, hnw, hK, hnm, hA, hsc, hR⟩ := id hS
  exact lv_bipush hx hb hd hz (k N0 ad0 p l env s m args below meth c A dC dI dA Qs hS H locs ad lsA hW (hD.sk (ok_cons hr hD.2.2.1)))

theorem V.sipush {n z : Int} (hd : decode e.2.1 pc = .ok (.sipush n, 3)) (hz : (Int16.ofInt n).toInt32 = i32 z) (hr : rI z) (k : V e sc K (pc + 3) ls (vI z :: st) hi hl cs ss Q) : V e sc K pc ls st hi hl cs ss Q := by
  intro N0 ad0 p l env s m args below meth c A dC dI dA Qs hS H locs ad lsA hW hD
  obtain ⟨hx, hb, hml, hown, hts, hnw, hK, hnm, hA, hsc, hR⟩ := id hS
  exact lv_sipush hx hb hd hz (k N0 ad0 p l env s m args below meth c A dC dI dA Qs hS H locs ad lsA hW (hD.sk (ok_cons hr hD.2.2.1)))

theorem V.lconst {n : Fin 2} {z : Int} (hd : decode e.2.1 pc = .ok (.lconst n, 1)) (hz : Int64.ofNat (n : Nat) = i64 z) (hr : rL z) (k : V e sc K (pc + 1) ls (vL z :: st) hi hl cs ss Q) : V e sc K pc ls st hi hl cs ss Q := by
  intro N0 ad0 p l env s m args below meth c A dC dI dA Qs hS H locs ad lsA hW hD
  obtain ⟨hx, hb, hml, hown, hts, hnw, hK, hnm, hA, hsc, hR⟩ := id hS
  exact lv_lconst hx hb hd hz (k N0 ad0 p l env s m args below meth c A dC dI dA Qs hS H locs ad lsA hW (hD.sk (ok_cons hr hD.2.2.1)))

theorem V.ldc {idx : Nat} {z : Int} (hc : Cond.constant e.1.cls idx (i32 z) ∈ GT) (hd : decode e.2.1 pc = .ok (.ldc idx, 2)) (hr : rI z) (k : V e sc K (pc + 2) ls (vI z :: st) hi hl cs ss Q) : V e sc K pc ls st hi hl cs ss Q := by
  intro N0 ad0 p l env s m args below meth c A dC dI dA Qs hS H locs ad lsA hW hD
  obtain ⟨hx, hb, hml, hown, hts, hnw, hK, hnm, hA, hsc, hR⟩ := id hS
  exact W.ldc hx hb hown (hts _ hc) rfl hd (k N0 ad0 p l env s m args below meth c A dC dI dA Qs hS H locs ad lsA hW (hD.sk (ok_cons hr hD.2.2.1)))

theorem V.ldcw {idx : Nat} {z : Int} (hc : Cond.constant e.1.cls idx (i32 z) ∈ GT) (hd : decode e.2.1 pc = .ok (.ldc_w idx, 3)) (hr : rI z) (k : V e sc K (pc + 3) ls (vI z :: st) hi hl cs ss Q) : V e sc K pc ls st hi hl cs ss Q := by
  intro N0 ad0 p l env s m args below meth c A dC dI dA Qs hS H locs ad lsA hW hD
  obtain ⟨hx, hb, hml, hown, hts, hnw, hK, hnm, hA, hsc, hR⟩ := id hS
  exact lv_ldcw hx hb hown (hts _ hc) hd (k N0 ad0 p l env s m args below meth c A dC dI dA Qs hS H locs ad lsA hW (hD.sk (ok_cons hr hD.2.2.1)))

theorem V.ldc2 {idx : Nat} {z : Int} (hc : Cond.constantLong e.1.cls idx (i64 z) ∈ GT) (hd : decode e.2.1 pc = .ok (.ldc2_w idx, 3)) (hr : rL z) (k : V e sc K (pc + 3) ls (vL z :: st) hi hl cs ss Q) : V e sc K pc ls st hi hl cs ss Q := by
  intro N0 ad0 p l env s m args below meth c A dC dI dA Qs hS H locs ad lsA hW hD
  obtain ⟨hx, hb, hml, hown, hts, hnw, hK, hnm, hA, hsc, hR⟩ := id hS
  exact W.ldc2 hx hb hown (hts _ hc) rfl hd (k N0 ad0 p l env s m args below meth c A dC dI dA Qs hS H locs ad lsA hW (hD.sk (ok_cons hr hD.2.2.1)))

theorem V.iload_n {kf : Fin 4} {x : Int} (j : Nat) (hd : decode e.2.1 pc = .ok (.iload_n kf, 1)) (hj : ls[j]? = some ((kf : Nat), vI x)) (k : V e sc K (pc + 1) ls (vI x :: st) hi hl cs ss Q) : V e sc K pc ls st hi hl cs ss Q := by
  intro N0 ad0 p l env s m args below meth c A dC dI dA Qs hS H locs ad lsA hW hD
  obtain ⟨hx, hb, hml, hown, hts, hnw, hK, hnm, hA, hsc, hR⟩ := id hS
  exact lv_iload_n hx hb hd rfl (lv_at hD.1 j (lsC_at hj)) (k N0 ad0 p l env s m args below meth c A dC dI dA Qs hS H locs ad lsA hW (hD.sk (ok_cons (ls_ok hj hD.2.1) hD.2.2.1)))

theorem V.iload {i : Nat} {x : Int} (j : Nat) (hd : decode e.2.1 pc = .ok (.iload i, 2)) (hj : ls[j]? = some (i, vI x)) (k : V e sc K (pc + 2) ls (vI x :: st) hi hl cs ss Q) : V e sc K pc ls st hi hl cs ss Q := by
  intro N0 ad0 p l env s m args below meth c A dC dI dA Qs hS H locs ad lsA hW hD
  obtain ⟨hx, hb, hml, hown, hts, hnw, hK, hnm, hA, hsc, hR⟩ := id hS
  exact lv_iload hx hb hd (lv_at hD.1 j (lsC_at hj)) (k N0 ad0 p l env s m args below meth c A dC dI dA Qs hS H locs ad lsA hW (hD.sk (ok_cons (ls_ok hj hD.2.1) hD.2.2.1)))

theorem V.lload_n {kf : Fin 4} {x : Int} (j : Nat) (hd : decode e.2.1 pc = .ok (.lload_n kf, 1)) (hj : ls[j]? = some ((kf : Nat), vL x)) (k : V e sc K (pc + 1) ls (vL x :: st) hi hl cs ss Q) : V e sc K pc ls st hi hl cs ss Q := by
  intro N0 ad0 p l env s m args below meth c A dC dI dA Qs hS H locs ad lsA hW hD
  obtain ⟨hx, hb, hml, hown, hts, hnw, hK, hnm, hA, hsc, hR⟩ := id hS
  exact lv_lload_n hx hb hd rfl (lv_at hD.1 j (lsC_at hj)) (k N0 ad0 p l env s m args below meth c A dC dI dA Qs hS H locs ad lsA hW (hD.sk (ok_cons (ls_ok hj hD.2.1) hD.2.2.1)))

theorem V.lload {i : Nat} {x : Int} (j : Nat) (hd : decode e.2.1 pc = .ok (.lload i, 2)) (hj : ls[j]? = some (i, vL x)) (k : V e sc K (pc + 2) ls (vL x :: st) hi hl cs ss Q) : V e sc K pc ls st hi hl cs ss Q := by
  intro N0 ad0 p l env s m args below meth c A dC dI dA Qs hS H locs ad lsA hW hD
  obtain ⟨hx, hb, hml, hown, hts, hnw, hK, hnm, hA, hsc, hR⟩ := id hS
  exact lv_lload hx hb hd (lv_at hD.1 j (lsC_at hj)) (k N0 ad0 p l env s m args below meth c A dC dI dA Qs hS H locs ad lsA hW (hD.sk (ok_cons (ls_ok hj hD.2.1) hD.2.2.1)))

theorem V.aload_n {kf : Fin 4} {x : Nat} (j : Nat) (hd : decode e.2.1 pc = .ok (.aload_n kf, 1)) (hj : ls[j]? = some ((kf : Nat), vR x)) (k : V e sc K (pc + 1) ls (vR x :: st) hi hl cs ss Q) : V e sc K pc ls st hi hl cs ss Q := by
  intro N0 ad0 p l env s m args below meth c A dC dI dA Qs hS H locs ad lsA hW hD
  obtain ⟨hx, hb, hml, hown, hts, hnw, hK, hnm, hA, hsc, hR⟩ := id hS
  exact lv_aload_n hx hb hd rfl (lv_at hD.1 j (lsC_at hj)) (k N0 ad0 p l env s m args below meth c A dC dI dA Qs hS H locs ad lsA hW (hD.sk (ok_cons (ls_ok hj hD.2.1) hD.2.2.1)))

theorem V.aload {i : Nat} {x : Nat} (j : Nat) (hd : decode e.2.1 pc = .ok (.aload i, 2)) (hj : ls[j]? = some (i, vR x)) (k : V e sc K (pc + 2) ls (vR x :: st) hi hl cs ss Q) : V e sc K pc ls st hi hl cs ss Q := by
  intro N0 ad0 p l env s m args below meth c A dC dI dA Qs hS H locs ad lsA hW hD
  obtain ⟨hx, hb, hml, hown, hts, hnw, hK, hnm, hA, hsc, hR⟩ := id hS
  exact lv_aload hx hb hd (lv_at hD.1 j (lsC_at hj)) (k N0 ad0 p l env s m args below meth c A dC dI dA Qs hS H locs ad lsA hW (hD.sk (ok_cons (ls_ok hj hD.2.1) hD.2.2.1)))

theorem V.istore_n {kf : Fin 4} {i : Nat} {x : Int} (hd : decode e.2.1 pc = .ok (.istore_n kf, 1)) (hi' : (kf : Nat) = i) (hn : i < e.2.2.1) (hl' : ast ls i (vI x) = ls') (k : V e sc K (pc + 1) ls' st hi hl cs ss Q) : V e sc K pc ls (vI x :: st) hi hl cs ss Q := by
  subst hl'
  intro N0 ad0 p l env s m args below meth c A dC dI dA Qs hS H locs ad lsA hW hD
  obtain ⟨hx, hb, hml, hown, hts, hnw, hK, hnm, hA, hsc, hR⟩ := id hS
  exact lv_istore_n hx hb hd hi' hD.1 hn (ast_C ad ls i (vI x)) (fun lsA' h' => k N0 ad0 p l env s m args below meth c A dC dI dA Qs hS H locs ad lsA' hW ⟨h', ast_ok hD.hd hD.2.1, hD.tl, hD.2.2.2⟩)

theorem V.istore {i : Nat} {x : Int} (hd : decode e.2.1 pc = .ok (.istore i, 2)) (hn : i < e.2.2.1) (hl' : ast ls i (vI x) = ls') (k : V e sc K (pc + 2) ls' st hi hl cs ss Q) : V e sc K pc ls (vI x :: st) hi hl cs ss Q := by
  subst hl'
  intro N0 ad0 p l env s m args below meth c A dC dI dA Qs hS H locs ad lsA hW hD
  obtain ⟨hx, hb, hml, hown, hts, hnw, hK, hnm, hA, hsc, hR⟩ := id hS
  exact lv_istore hx hb hd hD.1 hn (ast_C ad ls i (vI x)) (fun lsA' h' => k N0 ad0 p l env s m args below meth c A dC dI dA Qs hS H locs ad lsA' hW ⟨h', ast_ok hD.hd hD.2.1, hD.tl, hD.2.2.2⟩)

theorem V.lstore_n {kf : Fin 4} {i : Nat} {x : Int} (hd : decode e.2.1 pc = .ok (.lstore_n kf, 1)) (hi' : (kf : Nat) = i) (hn : i + 1 < e.2.2.1) (hl' : ast2 ls i (vL x) = ls') (k : V e sc K (pc + 1) ls' st hi hl cs ss Q) : V e sc K pc ls (vL x :: st) hi hl cs ss Q := by
  subst hl'
  intro N0 ad0 p l env s m args below meth c A dC dI dA Qs hS H locs ad lsA hW hD
  obtain ⟨hx, hb, hml, hown, hts, hnw, hK, hnm, hA, hsc, hR⟩ := id hS
  exact lv_lstore_n hx hb hd hi' hD.1 hn (ast2_C ad ls i (vL x)) (fun lsA' h' => k N0 ad0 p l env s m args below meth c A dC dI dA Qs hS H locs ad lsA' hW ⟨h', ast2_ok hD.hd hD.2.1, hD.tl, hD.2.2.2⟩)

theorem V.lstore {i : Nat} {x : Int} (hd : decode e.2.1 pc = .ok (.lstore i, 2)) (hn : i + 1 < e.2.2.1) (hl' : ast2 ls i (vL x) = ls') (k : V e sc K (pc + 2) ls' st hi hl cs ss Q) : V e sc K pc ls (vL x :: st) hi hl cs ss Q := by
  subst hl'
  intro N0 ad0 p l env s m args below meth c A dC dI dA Qs hS H locs ad lsA hW hD
  obtain ⟨hx, hb, hml, hown, hts, hnw, hK, hnm, hA, hsc, hR⟩ := id hS
  exact lv_lstore hx hb hd hD.1 hn (ast2_C ad ls i (vL x)) (fun lsA' h' => k N0 ad0 p l env s m args below meth c A dC dI dA Qs hS H locs ad lsA' hW ⟨h', ast2_ok hD.hd hD.2.1, hD.tl, hD.2.2.2⟩)

theorem V.astore_n {kf : Fin 4} {i : Nat} {x : Nat} (hd : decode e.2.1 pc = .ok (.astore_n kf, 1)) (hi' : (kf : Nat) = i) (hn : i < e.2.2.1) (hl' : ast ls i (vR x) = ls') (k : V e sc K (pc + 1) ls' st hi hl cs ss Q) : V e sc K pc ls (vR x :: st) hi hl cs ss Q := by
  subst hl'
  intro N0 ad0 p l env s m args below meth c A dC dI dA Qs hS H locs ad lsA hW hD
  obtain ⟨hx, hb, hml, hown, hts, hnw, hK, hnm, hA, hsc, hR⟩ := id hS
  exact lv_astore_n hx hb hd hi' hD.1 hn (ast_C ad ls i (vR x)) (fun lsA' h' => k N0 ad0 p l env s m args below meth c A dC dI dA Qs hS H locs ad lsA' hW ⟨h', ast_ok hD.hd hD.2.1, hD.tl, hD.2.2.2⟩)

theorem V.astore {i : Nat} {x : Nat} (hd : decode e.2.1 pc = .ok (.astore i, 2)) (hn : i < e.2.2.1) (hl' : ast ls i (vR x) = ls') (k : V e sc K (pc + 2) ls' st hi hl cs ss Q) : V e sc K pc ls (vR x :: st) hi hl cs ss Q := by
  subst hl'
  intro N0 ad0 p l env s m args below meth c A dC dI dA Qs hS H locs ad lsA hW hD
  obtain ⟨hx, hb, hml, hown, hts, hnw, hK, hnm, hA, hsc, hR⟩ := id hS
  exact lv_astore hx hb hd hD.1 hn (ast_C ad ls i (vR x)) (fun lsA' h' => k N0 ad0 p l env s m args below meth c A dC dI dA Qs hS H locs ad lsA' hW ⟨h', ast_ok hD.hd hD.2.1, hD.tl, hD.2.2.2⟩)

theorem V.iinc {i : Nat} {n x r : Int} (j : Nat) (hd : decode e.2.1 pc = .ok (.iinc i n, 3)) (hj : ls[j]? = some (i, vI x)) (hr : w32 (x + n) = r) (hn : i < e.2.2.1) (hl' : ast ls i (vI r) = ls') (k : V e sc K (pc + 3) ls' st hi hl cs ss Q) : V e sc K pc ls st hi hl cs ss Q := by
  subst hl'
  subst hr
  intro N0 ad0 p l env s m args below meth c A dC dI dA Qs hS H locs ad lsA hW hD
  obtain ⟨hx, hb, hml, hown, hts, hnw, hK, hnm, hA, hsc, hR⟩ := id hS
  exact lv_iinc (v := i32 (w32 (x + n))) hx hb hd hD.1 (lsC_at hj) (by rw [← i32_add]; rfl) hn (ast_C ad ls i (vI (w32 (x + n)))) (fun lsA' h' => k N0 ad0 p l env s m args below meth c A dC dI dA Qs hS H locs ad lsA' hW ⟨h', ast_ok (N := K.1.length) (v := vI (w32 (x + n))) (w32_r _) hD.2.1, hD.2.2.1, hD.2.2.2⟩)

theorem V.iadd {a b : Int} (r : Int) (hd : decode e.2.1 pc = .ok (.iadd, 1)) (hr : w32 (a + b) = r) (k : V e sc K (pc + 1) ls (vI r :: st) hi hl cs ss Q) : V e sc K pc ls (vI b :: vI a :: st) hi hl cs ss Q := by
  subst hr
  intro N0 ad0 p l env s m args below meth c A dC dI dA Qs hS H locs ad lsA hW hD
  obtain ⟨hx, hb, hml, hown, hts, hnw, hK, hnm, hA, hsc, hR⟩ := id hS
  have h := k N0 ad0 p l env s m args below meth c A dC dI dA Qs hS H locs ad lsA hW (hD.sk (ok_cons (v := vI (w32 (a + b))) (w32_r _) (List.forall_mem_cons.mp hD.tl).2))
  refine lv_iadd hx hb hd ?_
  rw [i32_add]
  exact h

theorem V.isub {a b : Int} (r : Int) (hd : decode e.2.1 pc = .ok (.isub, 1)) (hr : w32 (a - b) = r) (k : V e sc K (pc + 1) ls (vI r :: st) hi hl cs ss Q) : V e sc K pc ls (vI b :: vI a :: st) hi hl cs ss Q := by
  subst hr
  intro N0 ad0 p l env s m args below meth c A dC dI dA Qs hS H locs ad lsA hW hD
  obtain ⟨hx, hb, hml, hown, hts, hnw, hK, hnm, hA, hsc, hR⟩ := id hS
  have h := k N0 ad0 p l env s m args below meth c A dC dI dA Qs hS H locs ad lsA hW (hD.sk (ok_cons (v := vI (w32 (a - b))) (w32_r _) (List.forall_mem_cons.mp hD.tl).2))
  refine lv_isub hx hb hd ?_
  rw [i32_sub]
  exact h

theorem V.imul {a b : Int} (r : Int) (hd : decode e.2.1 pc = .ok (.imul, 1)) (hr : w32 (a * b) = r) (k : V e sc K (pc + 1) ls (vI r :: st) hi hl cs ss Q) : V e sc K pc ls (vI b :: vI a :: st) hi hl cs ss Q := by
  subst hr
  intro N0 ad0 p l env s m args below meth c A dC dI dA Qs hS H locs ad lsA hW hD
  obtain ⟨hx, hb, hml, hown, hts, hnw, hK, hnm, hA, hsc, hR⟩ := id hS
  have h := k N0 ad0 p l env s m args below meth c A dC dI dA Qs hS H locs ad lsA hW (hD.sk (ok_cons (v := vI (w32 (a * b))) (w32_r _) (List.forall_mem_cons.mp hD.tl).2))
  refine lv_imul hx hb hd ?_
  rw [i32_mul]
  exact h

theorem V.ladd {a b : Int} (r : Int) (hd : decode e.2.1 pc = .ok (.ladd, 1)) (hr : w64 (a + b) = r) (k : V e sc K (pc + 1) ls (vL r :: st) hi hl cs ss Q) : V e sc K pc ls (vL b :: vL a :: st) hi hl cs ss Q := by
  subst hr
  intro N0 ad0 p l env s m args below meth c A dC dI dA Qs hS H locs ad lsA hW hD
  obtain ⟨hx, hb, hml, hown, hts, hnw, hK, hnm, hA, hsc, hR⟩ := id hS
  have h := k N0 ad0 p l env s m args below meth c A dC dI dA Qs hS H locs ad lsA hW (hD.sk (ok_cons (v := vL (w64 (a + b))) (w64_r _) (List.forall_mem_cons.mp hD.tl).2))
  refine lv_ladd hx hb hd ?_
  rw [i64_add]
  exact h

theorem V.lmul {a b : Int} (r : Int) (hd : decode e.2.1 pc = .ok (.lmul, 1)) (hr : w64 (a * b) = r) (k : V e sc K (pc + 1) ls (vL r :: st) hi hl cs ss Q) : V e sc K pc ls (vL b :: vL a :: st) hi hl cs ss Q := by
  subst hr
  intro N0 ad0 p l env s m args below meth c A dC dI dA Qs hS H locs ad lsA hW hD
  obtain ⟨hx, hb, hml, hown, hts, hnw, hK, hnm, hA, hsc, hR⟩ := id hS
  have h := k N0 ad0 p l env s m args below meth c A dC dI dA Qs hS H locs ad lsA hW (hD.sk (ok_cons (v := vL (w64 (a * b))) (w64_r _) (List.forall_mem_cons.mp hD.tl).2))
  refine lv_lmul hx hb hd ?_
  rw [i64_mul]
  exact h

theorem V.idiv {a b : Int} (r : Int) (hd : decode e.2.1 pc = .ok (.idiv, 1)) (hne : b ≠ 0) (hr : (i32 a / i32 b) = i32 r) (hrr : rI r) (k : V e sc K (pc + 1) ls (vI r :: st) hi hl cs ss Q) : V e sc K pc ls (vI b :: vI a :: st) hi hl cs ss Q := by
  intro N0 ad0 p l env s m args below meth c A dC dI dA Qs hS H locs ad lsA hW hD
  obtain ⟨hx, hb, hml, hown, hts, hnw, hK, hnm, hA, hsc, hR⟩ := id hS
  have h := k N0 ad0 p l env s m args below meth c A dC dI dA Qs hS H locs ad lsA hW (hD.sk (ok_cons (v := vI r) hrr (List.forall_mem_cons.mp hD.tl).2))
  refine lv_idiv hx hb hd (fun q => hne (by have hb0 : rI b := hD.hd; have := i32_eqI hb0 rI_0; exact this.mp (by rw [q]; decide +kernel))) ?_
  rw [hr]
  exact h

theorem V.irem {a b : Int} (r : Int) (hd : decode e.2.1 pc = .ok (.irem, 1)) (hne : b ≠ 0) (hr : (i32 a - i32 a / i32 b * i32 b) = i32 r) (hrr : rI r) (k : V e sc K (pc + 1) ls (vI r :: st) hi hl cs ss Q) : V e sc K pc ls (vI b :: vI a :: st) hi hl cs ss Q := by
  intro N0 ad0 p l env s m args below meth c A dC dI dA Qs hS H locs ad lsA hW hD
  obtain ⟨hx, hb, hml, hown, hts, hnw, hK, hnm, hA, hsc, hR⟩ := id hS
  have h := k N0 ad0 p l env s m args below meth c A dC dI dA Qs hS H locs ad lsA hW (hD.sk (ok_cons (v := vI r) hrr (List.forall_mem_cons.mp hD.tl).2))
  refine lv_irem hx hb hd (fun q => hne (by have hb0 : rI b := hD.hd; have := i32_eqI hb0 rI_0; exact this.mp (by rw [q]; decide +kernel))) ?_
  rw [hr]
  exact h

theorem V.iand {a b : Int} (r : Int) (hd : decode e.2.1 pc = .ok (.iand, 1))  (hr : (i32 a &&& i32 b) = i32 r) (hrr : rI r) (k : V e sc K (pc + 1) ls (vI r :: st) hi hl cs ss Q) : V e sc K pc ls (vI b :: vI a :: st) hi hl cs ss Q := by
  intro N0 ad0 p l env s m args below meth c A dC dI dA Qs hS H locs ad lsA hW hD
  obtain ⟨hx, hb, hml, hown, hts, hnw, hK, hnm, hA, hsc, hR⟩ := id hS
  have h := k N0 ad0 p l env s m args below meth c A dC dI dA Qs hS H locs ad lsA hW (hD.sk (ok_cons (v := vI r) hrr (List.forall_mem_cons.mp hD.tl).2))
  refine lv_iand hx hb hd ?_
  rw [hr]
  exact h

theorem V.ior {a b : Int} (r : Int) (hd : decode e.2.1 pc = .ok (.ior, 1))  (hr : (i32 a ||| i32 b) = i32 r) (hrr : rI r) (k : V e sc K (pc + 1) ls (vI r :: st) hi hl cs ss Q) : V e sc K pc ls (vI b :: vI a :: st) hi hl cs ss Q := by
  intro N0 ad0 p l env s m args below meth c A dC dI dA Qs hS H locs ad lsA hW hD
  obtain ⟨hx, hb, hml, hown, hts, hnw, hK, hnm, hA, hsc, hR⟩ := id hS
  have h := k N0 ad0 p l env s m args below meth c A dC dI dA Qs hS H locs ad lsA hW (hD.sk (ok_cons (v := vI r) hrr (List.forall_mem_cons.mp hD.tl).2))
  refine lv_ior hx hb hd ?_
  rw [hr]
  exact h

theorem V.ixor {a b : Int} (r : Int) (hd : decode e.2.1 pc = .ok (.ixor, 1))  (hr : (i32 a ^^^ i32 b) = i32 r) (hrr : rI r) (k : V e sc K (pc + 1) ls (vI r :: st) hi hl cs ss Q) : V e sc K pc ls (vI b :: vI a :: st) hi hl cs ss Q := by
  intro N0 ad0 p l env s m args below meth c A dC dI dA Qs hS H locs ad lsA hW hD
  obtain ⟨hx, hb, hml, hown, hts, hnw, hK, hnm, hA, hsc, hR⟩ := id hS
  have h := k N0 ad0 p l env s m args below meth c A dC dI dA Qs hS H locs ad lsA hW (hD.sk (ok_cons (v := vI r) hrr (List.forall_mem_cons.mp hD.tl).2))
  refine lv_ixor hx hb hd ?_
  rw [hr]
  exact h

theorem V.ishl {a b : Int} (r : Int) (hd : decode e.2.1 pc = .ok (.ishl, 1))  (hr : (i32 a <<< (i32 b &&& 31)) = i32 r) (hrr : rI r) (k : V e sc K (pc + 1) ls (vI r :: st) hi hl cs ss Q) : V e sc K pc ls (vI b :: vI a :: st) hi hl cs ss Q := by
  intro N0 ad0 p l env s m args below meth c A dC dI dA Qs hS H locs ad lsA hW hD
  obtain ⟨hx, hb, hml, hown, hts, hnw, hK, hnm, hA, hsc, hR⟩ := id hS
  have h := k N0 ad0 p l env s m args below meth c A dC dI dA Qs hS H locs ad lsA hW (hD.sk (ok_cons (v := vI r) hrr (List.forall_mem_cons.mp hD.tl).2))
  refine lv_ishl hx hb hd ?_
  rw [hr]
  exact h

theorem V.ishr {a b : Int} (r : Int) (hd : decode e.2.1 pc = .ok (.ishr, 1))  (hr : (i32 a >>> (i32 b &&& 31)) = i32 r) (hrr : rI r) (k : V e sc K (pc + 1) ls (vI r :: st) hi hl cs ss Q) : V e sc K pc ls (vI b :: vI a :: st) hi hl cs ss Q := by
  intro N0 ad0 p l env s m args below meth c A dC dI dA Qs hS H locs ad lsA hW hD
  obtain ⟨hx, hb, hml, hown, hts, hnw, hK, hnm, hA, hsc, hR⟩ := id hS
  have h := k N0 ad0 p l env s m args below meth c A dC dI dA Qs hS H locs ad lsA hW (hD.sk (ok_cons (v := vI r) hrr (List.forall_mem_cons.mp hD.tl).2))
  refine lv_ishr hx hb hd ?_
  rw [hr]
  exact h

theorem V.iushr {a b : Int} (r : Int) (hd : decode e.2.1 pc = .ok (.iushr, 1))  (hr : (((i32 a).toUInt32 >>> ((i32 b).toUInt32 &&& Int32.toUInt32 31)).toInt32) = i32 r) (hrr : rI r) (k : V e sc K (pc + 1) ls (vI r :: st) hi hl cs ss Q) : V e sc K pc ls (vI b :: vI a :: st) hi hl cs ss Q := by
  intro N0 ad0 p l env s m args below meth c A dC dI dA Qs hS H locs ad lsA hW hD
  obtain ⟨hx, hb, hml, hown, hts, hnw, hK, hnm, hA, hsc, hR⟩ := id hS
  have h := k N0 ad0 p l env s m args below meth c A dC dI dA Qs hS H locs ad lsA hW (hD.sk (ok_cons (v := vI r) hrr (List.forall_mem_cons.mp hD.tl).2))
  exact lv_iushr (v := i32 r) hx hb hd hr h

theorem V.land {a b : Int} (r : Int) (hd : decode e.2.1 pc = .ok (.land, 1))  (hr : (i64 a &&& i64 b) = i64 r) (hrr : rL r) (k : V e sc K (pc + 1) ls (vL r :: st) hi hl cs ss Q) : V e sc K pc ls (vL b :: vL a :: st) hi hl cs ss Q := by
  intro N0 ad0 p l env s m args below meth c A dC dI dA Qs hS H locs ad lsA hW hD
  obtain ⟨hx, hb, hml, hown, hts, hnw, hK, hnm, hA, hsc, hR⟩ := id hS
  have h := k N0 ad0 p l env s m args below meth c A dC dI dA Qs hS H locs ad lsA hW (hD.sk (ok_cons (v := vL r) hrr (List.forall_mem_cons.mp hD.tl).2))
  refine lv_land hx hb hd ?_
  rw [hr]
  exact h

theorem V.lor {a b : Int} (r : Int) (hd : decode e.2.1 pc = .ok (.lor, 1))  (hr : (i64 a ||| i64 b) = i64 r) (hrr : rL r) (k : V e sc K (pc + 1) ls (vL r :: st) hi hl cs ss Q) : V e sc K pc ls (vL b :: vL a :: st) hi hl cs ss Q := by
  intro N0 ad0 p l env s m args below meth c A dC dI dA Qs hS H locs ad lsA hW hD
  obtain ⟨hx, hb, hml, hown, hts, hnw, hK, hnm, hA, hsc, hR⟩ := id hS
  have h := k N0 ad0 p l env s m args below meth c A dC dI dA Qs hS H locs ad lsA hW (hD.sk (ok_cons (v := vL r) hrr (List.forall_mem_cons.mp hD.tl).2))
  refine lv_lor hx hb hd ?_
  rw [hr]
  exact h

theorem V.ldiv {a b : Int} (r : Int) (hd : decode e.2.1 pc = .ok (.ldiv, 1)) (hne : b ≠ 0) (hr : (i64 a / i64 b) = i64 r) (hrr : rL r) (k : V e sc K (pc + 1) ls (vL r :: st) hi hl cs ss Q) : V e sc K pc ls (vL b :: vL a :: st) hi hl cs ss Q := by
  intro N0 ad0 p l env s m args below meth c A dC dI dA Qs hS H locs ad lsA hW hD
  obtain ⟨hx, hb, hml, hown, hts, hnw, hK, hnm, hA, hsc, hR⟩ := id hS
  have h := k N0 ad0 p l env s m args below meth c A dC dI dA Qs hS H locs ad lsA hW (hD.sk (ok_cons (v := vL r) hrr (List.forall_mem_cons.mp hD.tl).2))
  refine lv_ldiv hx hb hd (fun q => hne (by have hb0 : rL b := hD.hd; have := i64_eqI hb0 rL_0; exact this.mp (by rw [q]; decide +kernel))) ?_
  rw [hr]
  exact h

theorem V.lrem {a b : Int} (r : Int) (hd : decode e.2.1 pc = .ok (.lrem, 1)) (hne : b ≠ 0) (hr : (i64 a - i64 a / i64 b * i64 b) = i64 r) (hrr : rL r) (k : V e sc K (pc + 1) ls (vL r :: st) hi hl cs ss Q) : V e sc K pc ls (vL b :: vL a :: st) hi hl cs ss Q := by
  intro N0 ad0 p l env s m args below meth c A dC dI dA Qs hS H locs ad lsA hW hD
  obtain ⟨hx, hb, hml, hown, hts, hnw, hK, hnm, hA, hsc, hR⟩ := id hS
  have h := k N0 ad0 p l env s m args below meth c A dC dI dA Qs hS H locs ad lsA hW (hD.sk (ok_cons (v := vL r) hrr (List.forall_mem_cons.mp hD.tl).2))
  refine lv_lrem hx hb hd (fun q => hne (by have hb0 : rL b := hD.hd; have := i64_eqI hb0 rL_0; exact this.mp (by rw [q]; decide +kernel))) ?_
  rw [hr]
  exact h

theorem V.lshl {a b : Int} (r : Int) (hd : decode e.2.1 pc = .ok (.lshl, 1)) (hr : (i64 a <<< ((i32 b).toInt64 &&& 63)) = i64 r) (hrr : rL r) (k : V e sc K (pc + 1) ls (vL r :: st) hi hl cs ss Q) : V e sc K pc ls (vI b :: vL a :: st) hi hl cs ss Q := by
  intro N0 ad0 p l env s m args below meth c A dC dI dA Qs hS H locs ad lsA hW hD
  obtain ⟨hx, hb, hml, hown, hts, hnw, hK, hnm, hA, hsc, hR⟩ := id hS
  have h := k N0 ad0 p l env s m args below meth c A dC dI dA Qs hS H locs ad lsA hW (hD.sk (ok_cons (v := vL r) hrr (List.forall_mem_cons.mp hD.tl).2))
  exact lv_lshl (v := i64 r) hx hb hd hr h

theorem V.lshr {a b : Int} (r : Int) (hd : decode e.2.1 pc = .ok (.lshr, 1)) (hr : (i64 a >>> ((i32 b).toInt64 &&& 63)) = i64 r) (hrr : rL r) (k : V e sc K (pc + 1) ls (vL r :: st) hi hl cs ss Q) : V e sc K pc ls (vI b :: vL a :: st) hi hl cs ss Q := by
  intro N0 ad0 p l env s m args below meth c A dC dI dA Qs hS H locs ad lsA hW hD
  obtain ⟨hx, hb, hml, hown, hts, hnw, hK, hnm, hA, hsc, hR⟩ := id hS
  have h := k N0 ad0 p l env s m args below meth c A dC dI dA Qs hS H locs ad lsA hW (hD.sk (ok_cons (v := vL r) hrr (List.forall_mem_cons.mp hD.tl).2))
  exact lv_lshr (v := i64 r) hx hb hd hr h

theorem V.i2l {a : Int} (hd : decode e.2.1 pc = .ok (.i2l, 1)) (k : V e sc K (pc + 1) ls (vL a :: st) hi hl cs ss Q) : V e sc K pc ls (vI a :: st) hi hl cs ss Q := by
  intro N0 ad0 p l env s m args below meth c A dC dI dA Qs hS H locs ad lsA hW hD
  obtain ⟨hx, hb, hml, hown, hts, hnw, hK, hnm, hA, hsc, hR⟩ := id hS
  have ha : rI a := hD.hd
  have hL : rL a := by unfold rI at ha; unfold rL; omega
  have h := k N0 ad0 p l env s m args below meth c A dC dI dA Qs hS H locs ad lsA hW (hD.sk (ok_cons (v := vL a) hL hD.tl))
  refine lv_i2l (v := i64 a) hx hb hd ?_ h
  rw [← Int64.toInt_inj, i64_toInt hL, Int32.toInt_toInt64, i32_toInt ha]

theorem V.l2i {a : Int} (r : Int) (hd : decode e.2.1 pc = .ok (.l2i, 1)) (hr : w32 a = r) (k : V e sc K (pc + 1) ls (vI r :: st) hi hl cs ss Q) : V e sc K pc ls (vL a :: st) hi hl cs ss Q := by
  subst hr
  intro N0 ad0 p l env s m args below meth c A dC dI dA Qs hS H locs ad lsA hW hD
  obtain ⟨hx, hb, hml, hown, hts, hnw, hK, hnm, hA, hsc, hR⟩ := id hS
  have ha : rL a := hD.hd
  have h := k N0 ad0 p l env s m args below meth c A dC dI dA Qs hS H locs ad lsA hW (hD.sk (ok_cons (v := vI (w32 a)) (w32_r _) hD.tl))
  refine lv_l2i (v := i32 (w32 a)) hx hb hd ?_ h
  rw [← Int32.toInt_inj, i32_toInt (w32_r _), Int64.toInt_toInt32, i64_toInt ha]
  exact bmod32 a

theorem V.dup {v : AV} (hd : decode e.2.1 pc = .ok (.dup, 1)) (hv : isL v = false) (k : V e sc K (pc + 1) ls (v :: v :: st) hi hl cs ss Q) : V e sc K pc ls (v :: st) hi hl cs ss Q := by
  intro N0 ad0 p l env s m args below meth c A dC dI dA Qs hS H locs ad lsA hW hD
  obtain ⟨hx, hb, hml, hown, hts, hnw, hK, hnm, hA, hsc, hR⟩ := id hS
  exact lv_dup hx hb hd (by rw [cv_cat, hv]; rfl) (k N0 ad0 p l env s m args below meth c A dC dI dA Qs hS H locs ad lsA hW (hD.sk (ok_cons hD.hd hD.2.2.1)))

theorem V.pop {v : AV} (hd : decode e.2.1 pc = .ok (.pop, 1)) (hv : isL v = false) (k : V e sc K (pc + 1) ls st hi hl cs ss Q) : V e sc K pc ls (v :: st) hi hl cs ss Q := by
  intro N0 ad0 p l env s m args below meth c A dC dI dA Qs hS H locs ad lsA hW hD
  obtain ⟨hx, hb, hml, hown, hts, hnw, hK, hnm, hA, hsc, hR⟩ := id hS
  exact lv_pop hx hb hd (by rw [cv_cat, hv]; rfl) (k N0 ad0 p l env s m args below meth c A dC dI dA Qs hS H locs ad lsA hW (hD.sk hD.tl))

theorem V.dup2 {u v : AV} (hd : decode e.2.1 pc = .ok (.dup2, 1)) (hu : isL u = false) (hv : isL v = false) (k : V e sc K (pc + 1) ls (v :: u :: v :: u :: st) hi hl cs ss Q) : V e sc K pc ls (v :: u :: st) hi hl cs ss Q := by
  intro N0 ad0 p l env s m args below meth c A dC dI dA Qs hS H locs ad lsA hW hD
  obtain ⟨hx, hb, hml, hown, hts, hnw, hK, hnm, hA, hsc, hR⟩ := id hS
  exact lv_dup2_11 hx hb hd (by rw [cv_cat, hv]; rfl) (by rw [cv_cat, hu]; rfl) (k N0 ad0 p l env s m args below meth c A dC dI dA Qs hS H locs ad lsA hW (hD.sk (ok_cons hD.hd (ok_cons (List.forall_mem_cons.mp hD.tl).1 hD.2.2.1))))

theorem V.if_eq {a : Int} {off : Int} (tgt : Nat) (hd : decode e.2.1 pc = .ok (.ifCond .eq off, 3)) (ht : (pc : Int) + off = (tgt : Int)) (kt : a = 0 → V e sc K tgt ls st hi hl cs ss Q) (kf : ¬ (a = 0) → V e sc K (pc + 3) ls st hi hl cs ss Q) : V e sc K pc ls (vI a :: st) hi hl cs ss Q := by
  intro N0 ad0 p l env s m args below meth c A dC dI dA Qs hS H locs ad lsA hW hD
  obtain ⟨hx, hb, hml, hown, hts, hnw, hK, hnm, hA, hsc, hR⟩ := id hS
  have ha : rI a := hD.hd
  have hs := hD.tl
  have e0 : i32 0 = 0 := i32_0
  have hc := (i32_eqI ha rI_0)
  try rw [e0] at hc
  first | exact lv_if_eq hx hb hd ht (fun h => kt (hc.mp h) N0 ad0 p l env s m args below meth c A dC dI dA Qs hS H locs ad lsA hW (hD.sk hs)) (fun h => kf (fun q => h (hc.mpr q)) N0 ad0 p l env s m args below meth c A dC dI dA Qs hS H locs ad lsA hW (hD.sk hs)) | exact lv_if_eq hx hb hd ht (fun h => kf (fun q => h (hc.mpr q)) N0 ad0 p l env s m args below meth c A dC dI dA Qs hS H locs ad lsA hW (hD.sk hs)) (fun h => kt (hc.mp (Classical.byContradiction h)) N0 ad0 p l env s m args below meth c A dC dI dA Qs hS H locs ad lsA hW (hD.sk hs))

theorem V.icmp_eq {a b : Int} {off : Int} (tgt : Nat) (hd : decode e.2.1 pc = .ok (.if_icmp .eq off, 3)) (ht : (pc : Int) + off = (tgt : Int)) (kt : a = b → V e sc K tgt ls st hi hl cs ss Q) (kf : ¬ (a = b) → V e sc K (pc + 3) ls st hi hl cs ss Q) : V e sc K pc ls (vI b :: vI a :: st) hi hl cs ss Q := by
  intro N0 ad0 p l env s m args below meth c A dC dI dA Qs hS H locs ad lsA hW hD
  obtain ⟨hx, hb, hml, hown, hts, hnw, hK, hnm, hA, hsc, hR⟩ := id hS
  have hbb : rI b := hD.hd
  have ha : rI a := (List.forall_mem_cons.mp hD.tl).1
  have hs := (List.forall_mem_cons.mp hD.tl).2
  have hc := (i32_eqI ha hbb)
  first | exact lv_icmp_eq hx hb hd ht (fun h => kt (hc.mp h) N0 ad0 p l env s m args below meth c A dC dI dA Qs hS H locs ad lsA hW (hD.sk hs)) (fun h => kf (fun q => h (hc.mpr q)) N0 ad0 p l env s m args below meth c A dC dI dA Qs hS H locs ad lsA hW (hD.sk hs)) | exact lv_icmp_eq hx hb hd ht (fun h => kf (fun q => h (hc.mpr q)) N0 ad0 p l env s m args below meth c A dC dI dA Qs hS H locs ad lsA hW (hD.sk hs)) (fun h => kt (hc.mp (Classical.byContradiction h)) N0 ad0 p l env s m args below meth c A dC dI dA Qs hS H locs ad lsA hW (hD.sk hs))

theorem V.if_ne {a : Int} {off : Int} (tgt : Nat) (hd : decode e.2.1 pc = .ok (.ifCond .ne off, 3)) (ht : (pc : Int) + off = (tgt : Int)) (kt : a ≠ 0 → V e sc K tgt ls st hi hl cs ss Q) (kf : ¬ (a ≠ 0) → V e sc K (pc + 3) ls st hi hl cs ss Q) : V e sc K pc ls (vI a :: st) hi hl cs ss Q := by
  intro N0 ad0 p l env s m args below meth c A dC dI dA Qs hS H locs ad lsA hW hD
  obtain ⟨hx, hb, hml, hown, hts, hnw, hK, hnm, hA, hsc, hR⟩ := id hS
  have ha : rI a := hD.hd
  have hs := hD.tl
  have e0 : i32 0 = 0 := i32_0
  have hc := (i32_eqI ha rI_0)
  try rw [e0] at hc
  first | exact lv_if_ne hx hb hd ht (fun h => kt (fun q => h (hc.mpr q)) N0 ad0 p l env s m args below meth c A dC dI dA Qs hS H locs ad lsA hW (hD.sk hs)) (fun h => kf (fun q => q (hc.mp h)) N0 ad0 p l env s m args below meth c A dC dI dA Qs hS H locs ad lsA hW (hD.sk hs)) | exact lv_if_ne hx hb hd ht (fun h => kf (fun q => q (hc.mp h)) N0 ad0 p l env s m args below meth c A dC dI dA Qs hS H locs ad lsA hW (hD.sk hs)) (fun h => kt (fun q => h (hc.mpr q)) N0 ad0 p l env s m args below meth c A dC dI dA Qs hS H locs ad lsA hW (hD.sk hs))

theorem V.icmp_ne {a b : Int} {off : Int} (tgt : Nat) (hd : decode e.2.1 pc = .ok (.if_icmp .ne off, 3)) (ht : (pc : Int) + off = (tgt : Int)) (kt : a ≠ b → V e sc K tgt ls st hi hl cs ss Q) (kf : ¬ (a ≠ b) → V e sc K (pc + 3) ls st hi hl cs ss Q) : V e sc K pc ls (vI b :: vI a :: st) hi hl cs ss Q := by
  intro N0 ad0 p l env s m args below meth c A dC dI dA Qs hS H locs ad lsA hW hD
  obtain ⟨hx, hb, hml, hown, hts, hnw, hK, hnm, hA, hsc, hR⟩ := id hS
  have hbb : rI b := hD.hd
  have ha : rI a := (List.forall_mem_cons.mp hD.tl).1
  have hs := (List.forall_mem_cons.mp hD.tl).2
  have hc := (i32_eqI ha hbb)
  first | exact lv_icmp_ne hx hb hd ht (fun h => kt (fun q => h (hc.mpr q)) N0 ad0 p l env s m args below meth c A dC dI dA Qs hS H locs ad lsA hW (hD.sk hs)) (fun h => kf (fun q => q (hc.mp h)) N0 ad0 p l env s m args below meth c A dC dI dA Qs hS H locs ad lsA hW (hD.sk hs)) | exact lv_icmp_ne hx hb hd ht (fun h => kf (fun q => q (hc.mp h)) N0 ad0 p l env s m args below meth c A dC dI dA Qs hS H locs ad lsA hW (hD.sk hs)) (fun h => kt (fun q => h (hc.mpr q)) N0 ad0 p l env s m args below meth c A dC dI dA Qs hS H locs ad lsA hW (hD.sk hs))

theorem V.if_lt {a : Int} {off : Int} (tgt : Nat) (hd : decode e.2.1 pc = .ok (.ifCond .lt off, 3)) (ht : (pc : Int) + off = (tgt : Int)) (kt : a < 0 → V e sc K tgt ls st hi hl cs ss Q) (kf : ¬ (a < 0) → V e sc K (pc + 3) ls st hi hl cs ss Q) : V e sc K pc ls (vI a :: st) hi hl cs ss Q := by
  intro N0 ad0 p l env s m args below meth c A dC dI dA Qs hS H locs ad lsA hW hD
  obtain ⟨hx, hb, hml, hown, hts, hnw, hK, hnm, hA, hsc, hR⟩ := id hS
  have ha : rI a := hD.hd
  have hs := hD.tl
  have e0 : i32 0 = 0 := i32_0
  have hc := (i32_lt ha rI_0)
  try rw [e0] at hc
  first | exact lv_if_lt hx hb hd ht (fun h => kt (hc.mp h) N0 ad0 p l env s m args below meth c A dC dI dA Qs hS H locs ad lsA hW (hD.sk hs)) (fun h => kf (fun q => h (hc.mpr q)) N0 ad0 p l env s m args below meth c A dC dI dA Qs hS H locs ad lsA hW (hD.sk hs)) | exact lv_if_lt hx hb hd ht (fun h => kf (fun q => h (hc.mpr q)) N0 ad0 p l env s m args below meth c A dC dI dA Qs hS H locs ad lsA hW (hD.sk hs)) (fun h => kt (hc.mp (Classical.byContradiction h)) N0 ad0 p l env s m args below meth c A dC dI dA Qs hS H locs ad lsA hW (hD.sk hs))

theorem V.icmp_lt {a b : Int} {off : Int} (tgt : Nat) (hd : decode e.2.1 pc = .ok (.if_icmp .lt off, 3)) (ht : (pc : Int) + off = (tgt : Int)) (kt : a < b → V e sc K tgt ls st hi hl cs ss Q) (kf : ¬ (a < b) → V e sc K (pc + 3) ls st hi hl cs ss Q) : V e sc K pc ls (vI b :: vI a :: st) hi hl cs ss Q := by
  intro N0 ad0 p l env s m args below meth c A dC dI dA Qs hS H locs ad lsA hW hD
  obtain ⟨hx, hb, hml, hown, hts, hnw, hK, hnm, hA, hsc, hR⟩ := id hS
  have hbb : rI b := hD.hd
  have ha : rI a := (List.forall_mem_cons.mp hD.tl).1
  have hs := (List.forall_mem_cons.mp hD.tl).2
  have hc := (i32_lt ha hbb)
  first | exact lv_icmp_lt hx hb hd ht (fun h => kt (hc.mp h) N0 ad0 p l env s m args below meth c A dC dI dA Qs hS H locs ad lsA hW (hD.sk hs)) (fun h => kf (fun q => h (hc.mpr q)) N0 ad0 p l env s m args below meth c A dC dI dA Qs hS H locs ad lsA hW (hD.sk hs)) | exact lv_icmp_lt hx hb hd ht (fun h => kf (fun q => h (hc.mpr q)) N0 ad0 p l env s m args below meth c A dC dI dA Qs hS H locs ad lsA hW (hD.sk hs)) (fun h => kt (hc.mp (Classical.byContradiction h)) N0 ad0 p l env s m args below meth c A dC dI dA Qs hS H locs ad lsA hW (hD.sk hs))

theorem V.if_ge {a : Int} {off : Int} (tgt : Nat) (hd : decode e.2.1 pc = .ok (.ifCond .ge off, 3)) (ht : (pc : Int) + off = (tgt : Int)) (kt : 0 ≤ a → V e sc K tgt ls st hi hl cs ss Q) (kf : ¬ (0 ≤ a) → V e sc K (pc + 3) ls st hi hl cs ss Q) : V e sc K pc ls (vI a :: st) hi hl cs ss Q := by
  intro N0 ad0 p l env s m args below meth c A dC dI dA Qs hS H locs ad lsA hW hD
  obtain ⟨hx, hb, hml, hown, hts, hnw, hK, hnm, hA, hsc, hR⟩ := id hS
  have ha : rI a := hD.hd
  have hs := hD.tl
  have e0 : i32 0 = 0 := i32_0
  have hc := (i32_le rI_0 ha)
  try rw [e0] at hc
  first | exact lv_if_ge hx hb hd ht (fun h => kt (hc.mp h) N0 ad0 p l env s m args below meth c A dC dI dA Qs hS H locs ad lsA hW (hD.sk hs)) (fun h => kf (fun q => h (hc.mpr q)) N0 ad0 p l env s m args below meth c A dC dI dA Qs hS H locs ad lsA hW (hD.sk hs)) | exact lv_if_ge hx hb hd ht (fun h => kf (fun q => h (hc.mpr q)) N0 ad0 p l env s m args below meth c A dC dI dA Qs hS H locs ad lsA hW (hD.sk hs)) (fun h => kt (hc.mp (Classical.byContradiction h)) N0 ad0 p l env s m args below meth c A dC dI dA Qs hS H locs ad lsA hW (hD.sk hs))

theorem V.icmp_ge {a b : Int} {off : Int} (tgt : Nat) (hd : decode e.2.1 pc = .ok (.if_icmp .ge off, 3)) (ht : (pc : Int) + off = (tgt : Int)) (kt : b ≤ a → V e sc K tgt ls st hi hl cs ss Q) (kf : ¬ (b ≤ a) → V e sc K (pc + 3) ls st hi hl cs ss Q) : V e sc K pc ls (vI b :: vI a :: st) hi hl cs ss Q := by
  intro N0 ad0 p l env s m args below meth c A dC dI dA Qs hS H locs ad lsA hW hD
  obtain ⟨hx, hb, hml, hown, hts, hnw, hK, hnm, hA, hsc, hR⟩ := id hS
  have hbb : rI b := hD.hd
  have ha : rI a := (List.forall_mem_cons.mp hD.tl).1
  have hs := (List.forall_mem_cons.mp hD.tl).2
  have hc := (i32_le hbb ha)
  first | exact lv_icmp_ge hx hb hd ht (fun h => kt (hc.mp h) N0 ad0 p l env s m args below meth c A dC dI dA Qs hS H locs ad lsA hW (hD.sk hs)) (fun h => kf (fun q => h (hc.mpr q)) N0 ad0 p l env s m args below meth c A dC dI dA Qs hS H locs ad lsA hW (hD.sk hs)) | exact lv_icmp_ge hx hb hd ht (fun h => kf (fun q => h (hc.mpr q)) N0 ad0 p l env s m args below meth c A dC dI dA Qs hS H locs ad lsA hW (hD.sk hs)) (fun h => kt (hc.mp (Classical.byContradiction h)) N0 ad0 p l env s m args below meth c A dC dI dA Qs hS H locs ad lsA hW (hD.sk hs))

theorem V.if_gt {a : Int} {off : Int} (tgt : Nat) (hd : decode e.2.1 pc = .ok (.ifCond .gt off, 3)) (ht : (pc : Int) + off = (tgt : Int)) (kt : 0 < a → V e sc K tgt ls st hi hl cs ss Q) (kf : ¬ (0 < a) → V e sc K (pc + 3) ls st hi hl cs ss Q) : V e sc K pc ls (vI a :: st) hi hl cs ss Q := by
  intro N0 ad0 p l env s m args below meth c A dC dI dA Qs hS H locs ad lsA hW hD
  obtain ⟨hx, hb, hml, hown, hts, hnw, hK, hnm, hA, hsc, hR⟩ := id hS
  have ha : rI a := hD.hd
  have hs := hD.tl
  have e0 : i32 0 = 0 := i32_0
  have hc := (i32_lt rI_0 ha)
  try rw [e0] at hc
  first | exact lv_if_gt hx hb hd ht (fun h => kt (hc.mp h) N0 ad0 p l env s m args below meth c A dC dI dA Qs hS H locs ad lsA hW (hD.sk hs)) (fun h => kf (fun q => h (hc.mpr q)) N0 ad0 p l env s m args below meth c A dC dI dA Qs hS H locs ad lsA hW (hD.sk hs)) | exact lv_if_gt hx hb hd ht (fun h => kf (fun q => h (hc.mpr q)) N0 ad0 p l env s m args below meth c A dC dI dA Qs hS H locs ad lsA hW (hD.sk hs)) (fun h => kt (hc.mp (Classical.byContradiction h)) N0 ad0 p l env s m args below meth c A dC dI dA Qs hS H locs ad lsA hW (hD.sk hs))

theorem V.icmp_gt {a b : Int} {off : Int} (tgt : Nat) (hd : decode e.2.1 pc = .ok (.if_icmp .gt off, 3)) (ht : (pc : Int) + off = (tgt : Int)) (kt : b < a → V e sc K tgt ls st hi hl cs ss Q) (kf : ¬ (b < a) → V e sc K (pc + 3) ls st hi hl cs ss Q) : V e sc K pc ls (vI b :: vI a :: st) hi hl cs ss Q := by
  intro N0 ad0 p l env s m args below meth c A dC dI dA Qs hS H locs ad lsA hW hD
  obtain ⟨hx, hb, hml, hown, hts, hnw, hK, hnm, hA, hsc, hR⟩ := id hS
  have hbb : rI b := hD.hd
  have ha : rI a := (List.forall_mem_cons.mp hD.tl).1
  have hs := (List.forall_mem_cons.mp hD.tl).2
  have hc := (i32_lt hbb ha)
  first | exact lv_icmp_gt hx hb hd ht (fun h => kt (hc.mp h) N0 ad0 p l env s m args below meth c A dC dI dA Qs hS H locs ad lsA hW (hD.sk hs)) (fun h => kf (fun q => h (hc.mpr q)) N0 ad0 p l env s m args below meth c A dC dI dA Qs hS H locs ad lsA hW (hD.sk hs)) | exact lv_icmp_gt hx hb hd ht (fun h => kf (fun q => h (hc.mpr q)) N0 ad0 p l env s m args below meth c A dC dI dA Qs hS H locs ad lsA hW (hD.sk hs)) (fun h => kt (hc.mp (Classical.byContradiction h)) N0 ad0 p l env s m args below meth c A dC dI dA Qs hS H locs ad lsA hW (hD.sk hs))

theorem V.if_le {a : Int} {off : Int} (tgt : Nat) (hd : decode e.2.1 pc = .ok (.ifCond .le off, 3)) (ht : (pc : Int) + off = (tgt : Int)) (kt : a ≤ 0 → V e sc K tgt ls st hi hl cs ss Q) (kf : ¬ (a ≤ 0) → V e sc K (pc + 3) ls st hi hl cs ss Q) : V e sc K pc ls (vI a :: st) hi hl cs ss Q := by
  intro N0 ad0 p l env s m args below meth c A dC dI dA Qs hS H locs ad lsA hW hD
  obtain ⟨hx, hb, hml, hown, hts, hnw, hK, hnm, hA, hsc, hR⟩ := id hS
  have ha : rI a := hD.hd
  have hs := hD.tl
  have e0 : i32 0 = 0 := i32_0
  have hc := (i32_le ha rI_0)
  try rw [e0] at hc
  first | exact lv_if_le hx hb hd ht (fun h => kt (hc.mp h) N0 ad0 p l env s m args below meth c A dC dI dA Qs hS H locs ad lsA hW (hD.sk hs)) (fun h => kf (fun q => h (hc.mpr q)) N0 ad0 p l env s m args below meth c A dC dI dA Qs hS H locs ad lsA hW (hD.sk hs)) | exact lv_if_le hx hb hd ht (fun h => kf (fun q => h (hc.mpr q)) N0 ad0 p l env s m args below meth c A dC dI dA Qs hS H locs ad lsA hW (hD.sk hs)) (fun h => kt (hc.mp (Classical.byContradiction h)) N0 ad0 p l env s m args below meth c A dC dI dA Qs hS H locs ad lsA hW (hD.sk hs))

theorem V.icmp_le {a b : Int} {off : Int} (tgt : Nat) (hd : decode e.2.1 pc = .ok (.if_icmp .le off, 3)) (ht : (pc : Int) + off = (tgt : Int)) (kt : a ≤ b → V e sc K tgt ls st hi hl cs ss Q) (kf : ¬ (a ≤ b) → V e sc K (pc + 3) ls st hi hl cs ss Q) : V e sc K pc ls (vI b :: vI a :: st) hi hl cs ss Q := by
  intro N0 ad0 p l env s m args below meth c A dC dI dA Qs hS H locs ad lsA hW hD
  obtain ⟨hx, hb, hml, hown, hts, hnw, hK, hnm, hA, hsc, hR⟩ := id hS
  have hbb : rI b := hD.hd
  have ha : rI a := (List.forall_mem_cons.mp hD.tl).1
  have hs := (List.forall_mem_cons.mp hD.tl).2
  have hc := (i32_le ha hbb)
  first | exact lv_icmp_le hx hb hd ht (fun h => kt (hc.mp h) N0 ad0 p l env s m args below meth c A dC dI dA Qs hS H locs ad lsA hW (hD.sk hs)) (fun h => kf (fun q => h (hc.mpr q)) N0 ad0 p l env s m args below meth c A dC dI dA Qs hS H locs ad lsA hW (hD.sk hs)) | exact lv_icmp_le hx hb hd ht (fun h => kf (fun q => h (hc.mpr q)) N0 ad0 p l env s m args below meth c A dC dI dA Qs hS H locs ad lsA hW (hD.sk hs)) (fun h => kt (hc.mp (Classical.byContradiction h)) N0 ad0 p l env s m args below meth c A dC dI dA Qs hS H locs ad lsA hW (hD.sk hs))

theorem V.goto {off : Int} (tgt : Nat) (hd : decode e.2.1 pc = .ok (.goto off, 3)) (ht : (pc : Int) + off = (tgt : Int)) (k : V e sc K tgt ls st hi hl cs ss Q) : V e sc K pc ls st hi hl cs ss Q := by
  intro N0 ad0 p l env s m args below meth c A dC dI dA Qs hS H locs ad lsA hW hD
  obtain ⟨hx, hb, hml, hown, hts, hnw, hK, hnm, hA, hsc, hR⟩ := id hS
  exact lv_goto hx hb hd ht (k N0 ad0 p l env s m args below meth c A dC dI dA Qs hS H locs ad lsA hW hD)

def lcmpI (a b : Int) : Int := if b < a then 1 else if a = b then 0 else -1

theorem V.lcmp {a b : Int} (hd : decode e.2.1 pc = .ok (.lcmp, 1)) (k : V e sc K (pc + 1) ls (vI (lcmpI a b) :: st) hi hl cs ss Q) : V e sc K pc ls (vL b :: vL a :: st) hi hl cs ss Q := by
  intro N0 ad0 p l env s m args below meth c A dC dI dA Qs hS H locs ad lsA hW hD
  obtain ⟨hx, hb, hml, hown, hts, hnw, hK, hnm, hA, hsc, hR⟩ := id hS
  have hbb : rL b := hD.hd
  have ha : rL a := (List.forall_mem_cons.mp hD.tl).1
  have hr : rI (lcmpI a b) := by
    unfold lcmpI rI
    split
    · omega
    · split <;> omega
  have h := k N0 ad0 p l env s m args below meth c A dC dI dA Qs hS H locs ad lsA hW (hD.sk (ok_cons (v := vI (lcmpI a b)) hr (List.forall_mem_cons.mp hD.tl).2))
  refine W.lcmp hx hb hd ?_
  have e1 : lg_cmp (i64 a) (i64 b) = i32 (lcmpI a b) := by
    unfold lg_cmp lcmpI
    simp only [gt_iff_lt, i64_lt hbb ha, i64_eqI ha hbb]
    by_cases q : b < a
    · simp only [if_pos q]; decide +kernel
    · by_cases q2 : a = b
      · simp only [if_neg q, if_pos q2]; decide +kernel
      · simp only [if_neg q, if_neg q2]; decide +kernel
  show W p l env e.2.2.2.2 s m args below meth c H locs cs ss Qs (F0 m (pc + 1) lsA (.int (lg_cmp (i64 a) (i64 b)) :: st.map (cv ad)))
  rw [e1]
  exact h

theorem V.tabIn {a : Int} {dflt lo hi2 off : Int} {offs : Array Int} {len : Nat} (n tgt : Nat) (hd : decode e.2.1 pc = .ok (.tableswitch dflt lo hi2 offs, len)) (hn : a = lo + n) (h2 : a ≤ hi2) (ho : offs[n]? = some off) (ht : (pc : Int) + off = (tgt : Int)) (k : V e sc K tgt ls st hi hl cs ss Q) : V e sc K pc ls (vI a :: st) hi hl cs ss Q := by
  intro N0 ad0 p l env s m args below meth c A dC dI dA Qs hS H locs ad lsA hW hD
  obtain ⟨hx, hb, hml, hown, hts, hnw, hK, hnm, hA, hsc, hR⟩ := id hS
  have ha : rI a := hD.hd
  have hz := i32_toInt ha
  exact lv_tableIn hx hb hd (by rw [hz]; omega) (by rw [hz]; omega) (by rw [hz, show (a - lo).toNat = n by omega]; exact ho) ht (k N0 ad0 p l env s m args below meth c A dC dI dA Qs hS H locs ad lsA hW (hD.sk hD.tl))

theorem V.tabOut {a : Int} {dflt lo hi2 : Int} {offs : Array Int} {len : Nat} (tgt : Nat) (hd : decode e.2.1 pc = .ok (.tableswitch dflt lo hi2 offs, len)) (h : a < lo ∨ hi2 < a) (ht : (pc : Int) + dflt = (tgt : Int)) (k : V e sc K tgt ls st hi hl cs ss Q) : V e sc K pc ls (vI a :: st) hi hl cs ss Q := by
  intro N0 ad0 p l env s m args below meth c A dC dI dA Qs hS H locs ad lsA hW hD
  obtain ⟨hx, hb, hml, hown, hts, hnw, hK, hnm, hA, hsc, hR⟩ := id hS
  have ha : rI a := hD.hd
  have hz := i32_toInt ha
  exact lv_tableOut hx hb hd (by rw [hz]; exact h) ht (k N0 ad0 p l env s m args below meth c A dC dI dA Qs hS H locs ad lsA hW (hD.sk hD.tl))

theorem V.locs (js : List Nat) (h : js.filterMap (fun j => ls[j]?) = ls') (k : V e sc K pc ls' st hi hl cs ss Q) : V e sc K pc ls st hi hl cs ss Q := by
  subst h
  intro N0 ad0 p l env s m args below meth c A dC dI dA Qs hS H locs ad lsA hW hD
  obtain ⟨hx, hb, hml, hown, hts, hnw, hK, hnm, hA, hsc, hR⟩ := id hS
  refine k N0 ad0 p l env s m args below meth c A dC dI dA Qs hS H locs ad lsA hW ⟨⟨hD.1.1, hD.1.2.1, fun q hq => ?_⟩, fun q hq => ?_, hD.2.2⟩
  · obtain ⟨q0, h0, rfl⟩ := List.mem_map.mp hq
    obtain ⟨j, -, hj⟩ := List.mem_filterMap.mp h0
    exact hD.1.2.2 _ (List.mem_map.mpr ⟨q0, List.mem_of_getElem? hj, rfl⟩)
  · obtain ⟨j, -, hj⟩ := List.mem_filterMap.mp hq
    exact hD.2.1 q (List.mem_of_getElem? hj)

theorem V.rng (j : Nat) {i : Nat} {x : Int} (hj : ls[j]? = some (i, vI x)) (k : rI x → V e sc K pc ls st hi hl cs ss Q) : V e sc K pc ls st hi hl cs ss Q := by
  intro N0 ad0 p l env s m args below meth c A dC dI dA Qs hS H locs ad lsA hW hD
  obtain ⟨hx, hb, hml, hown, hts, hnw, hK, hnm, hA, hsc, hR⟩ := id hS
  exact k (ls_ok (v := vI x) hj hD.2.1) N0 ad0 p l env s m args below meth c A dC dI dA Qs hS H locs ad lsA hW hD

theorem V.rngL (j : Nat) {i : Nat} {x : Int} (hj : ls[j]? = some (i, vL x)) (k : rL x → V e sc K pc ls st hi hl cs ss Q) : V e sc K pc ls st hi hl cs ss Q := by
  intro N0 ad0 p l env s m args below meth c A dC dI dA Qs hS H locs ad lsA hW hD
  obtain ⟨hx, hb, hml, hown, hts, hnw, hK, hnm, hA, hsc, hR⟩ := id hS
  exact k (ls_ok (v := vL x) hj hD.2.1) N0 ad0 p l env s m args below meth c A dC dI dA Qs hS H locs ad lsA hW hD

theorem V.wf (k : wfH hi hl → V e sc K pc ls st hi hl cs ss Q) : V e sc K pc ls st hi hl cs ss Q := by
  intro N0 ad0 p l env s m args below meth c A dC dI dA Qs hS H locs ad lsA hW hD
  obtain ⟨hx, hb, hml, hown, hts, hnw, hK, hnm, hA, hsc, hR⟩ := id hS
  exact k hW.2.2.2.1 N0 ad0 p l env s m args below meth c A dC dI dA Qs hS H locs ad lsA hW hD

theorem V.iald {o len : Nat} {z : Int} (n : Nat) (hd : decode e.2.1 pc = .ok (.iaload, 1)) (hsh : K.1[o]? = some (.inl (0, len))) (hz : z = n) (hn : n < len) (k : V e sc K (pc + 1) ls (vI (hi o n) :: st) hi hl cs ss Q) : V e sc K pc ls (vI z :: vR o :: st) hi hl cs ss Q := by
  intro N0 ad0 p l env s m args below meth c A dC dI dA Qs hS H locs ad lsA hW hD
  obtain ⟨hx, hb, hml, hown, hts, hnw, hK, hnm, hA, hsc, hR⟩ := id hS
  obtain ⟨h1, h2⟩ := i32_in hz hn hD.hd
  have h := k N0 ad0 p l env s m args below meth c A dC dI dA Qs hS H locs ad lsA hW (hD.sk (ok_cons (v := vI (hi o n)) (hW.2.2.2.1.1 o n) (List.forall_mem_cons.mp hD.tl).2))
  refine va_iald hx hb hK hW.1 o 0 (conc_at hsh) rfl h1 hd ?_
  rw [h2]
  exact h

theorem V.zald {o len : Nat} {z : Int} (n : Nat) (hd : decode e.2.1 pc = .ok (.baload, 1)) (hsh : K.1[o]? = some (.inl (2, len))) (hz : z = n) (hn : n < len) (k : V e sc K (pc + 1) ls (vI (hi o n) :: st) hi hl cs ss Q) : V e sc K pc ls (vI z :: vR o :: st) hi hl cs ss Q := by
  intro N0 ad0 p l env s m args below meth c A dC dI dA Qs hS H locs ad lsA hW hD
  obtain ⟨hx, hb, hml, hown, hts, hnw, hK, hnm, hA, hsc, hR⟩ := id hS
  obtain ⟨h1, h2⟩ := i32_in hz hn hD.hd
  have h := k N0 ad0 p l env s m args below meth c A dC dI dA Qs hS H locs ad lsA hW (hD.sk (ok_cons (v := vI (hi o n)) (hW.2.2.2.1.1 o n) (List.forall_mem_cons.mp hD.tl).2))
  refine va_zald hx hb hK hW.1 o 2 (conc_at hsh) rfl h1 hd ?_
  rw [h2]
  exact h

theorem V.lald {o len : Nat} {z : Int} (n : Nat) (hd : decode e.2.1 pc = .ok (.laload, 1)) (hsh : K.1[o]? = some (.inl (1, len))) (hz : z = n) (hn : n < len) (k : V e sc K (pc + 1) ls (vL (hl o n) :: st) hi hl cs ss Q) : V e sc K pc ls (vI z :: vR o :: st) hi hl cs ss Q := by
  intro N0 ad0 p l env s m args below meth c A dC dI dA Qs hS H locs ad lsA hW hD
  obtain ⟨hx, hb, hml, hown, hts, hnw, hK, hnm, hA, hsc, hR⟩ := id hS
  obtain ⟨h1, h2⟩ := i32_in hz hn hD.hd
  have h := k N0 ad0 p l env s m args below meth c A dC dI dA Qs hS H locs ad lsA hW (hD.sk (ok_cons (v := vL (hl o n)) (hW.2.2.2.1.2 o n) (List.forall_mem_cons.mp hD.tl).2))
  refine va_lald hx hb hK hW.1 o 1 (conc_at hsh) rfl h1 hd ?_
  rw [h2]
  exact h

theorem V.sald {z : Int} {L : Nat} {xs : Nat → Int} (n : Nat) (hd : decode e.2.1 pc = .ok (.iaload, 1)) (hz : z = n) (hn : n < L) (k : V e (some (L, xs)) K (pc + 1) ls (vI (xs n) :: st) hi hl cs ss Q) : V e (some (L, xs)) K pc ls (vI z :: vR SC :: st) hi hl cs ss Q := by
  intro N0 ad0 p l env s m args below meth c A dC dI dA Qs hS H locs ad lsA hW hD
  obtain ⟨hx, hb, hml, hown, hts, hnw, hK, hnm, hA, hsc, hR⟩ := id hS
  obtain ⟨h1, h2⟩ := i32_in hz hn hD.hd
  obtain ⟨s1, s2, s3, s4⟩ := hsc.2
  have h := k N0 ad0 p l env s m args below meth c A dC dI dA Qs hS H locs ad lsA hW (hD.sk (ok_cons (v := vI (xs n)) (s4 n) (List.forall_mem_cons.mp hD.tl).2))
  have e1 : ad SC = ad0 SC := hW.2.2.2.2.2.2 SC (Or.inr rfl)
  show W p l env e.2.2.2.2 s m args below meth c H locs cs ss Qs (F0 m pc lsA (.int (i32 z) :: .ref (ad SC) :: st.map (cv ad)))
  rw [e1]
  refine va_sld hx hb s1 s2 s3 hW.2.2.1 h1 hd ?_
  rw [h2]
  exact h

theorem V.slen {L : Nat} {xs : Nat → Int} (hd : decode e.2.1 pc = .ok (.arraylength, 1)) (hL : L < 2147483648) (k : V e (some (L, xs)) K (pc + 1) ls (vI L :: st) hi hl cs ss Q) : V e (some (L, xs)) K pc ls (vR SC :: st) hi hl cs ss Q := by
  intro N0 ad0 p l env s m args below meth c A dC dI dA Qs hS H locs ad lsA hW hD
  obtain ⟨hx, hb, hml, hown, hts, hnw, hK, hnm, hA, hsc, hR⟩ := id hS
  obtain ⟨s1, s2, s3, s4⟩ := hsc.2
  have h := k N0 ad0 p l env s m args below meth c A dC dI dA Qs hS H locs ad lsA hW (hD.sk (ok_cons (v := vI L) (rI_n hL) hD.tl))
  have e1 : ad SC = ad0 SC := hW.2.2.2.2.2.2 SC (Or.inr rfl)
  show W p l env e.2.2.2.2 s m args below meth c H locs cs ss Qs (F0 m pc lsA (.ref (ad SC) :: st.map (cv ad)))
  rw [e1]
  exact va_slen hx hb s1 s2 s3 hW.2.2.1 hd h

theorem V.alen {o len t : Nat} (hd : decode e.2.1 pc = .ok (.arraylength, 1)) (hsh : K.1[o]? = some (.inl (t, len))) (ht : t < 3) (hlen : len < 2147483648) (k : V e sc K (pc + 1) ls (vI len :: st) hi hl cs ss Q) : V e sc K pc ls (vR o :: st) hi hl cs ss Q := by
  intro N0 ad0 p l env s m args below meth c A dC dI dA Qs hS H locs ad lsA hW hD
  obtain ⟨hx, hb, hml, hown, hts, hnw, hK, hnm, hA, hsc, hR⟩ := id hS
  have h := k N0 ad0 p l env s m args below meth c A dC dI dA Qs hS H locs ad lsA hW (hD.sk (ok_cons (v := vI len) (rI_n hlen) hD.tl))
  rcases (show t = 0 ∨ t = 1 ∨ t = 2 by omega) with rfl | rfl | rfl
  · exact va_alen hx hb hK hW.1 o 0 (conc_at hsh) (ty := .int) rfl rfl hd h
  · exact va_alen hx hb hK hW.1 o 1 (conc_at hsh) (ty := .long) rfl rfl hd h
  · exact va_alen hx hb hK hW.1 o 2 (conc_at hsh) (ty := .boolean) rfl rfl hd h

theorem V.aald {o o' len t : Nat} {z : Int} (n : Nat) (hd : decode e.2.1 pc = .ok (.aaload, 1)) (hsh : K.1[o]? = some (.inl (t + 3, len))) (ht : t < 3) (hr : K.2 o n = some o') (hz : z = n) (hn : n < len) (k : V e sc K (pc + 1) ls (vR o' :: st) hi hl cs ss Q) : V e sc K pc ls (vI z :: vR o :: st) hi hl cs ss Q := by
  intro N0 ad0 p l env s m args below meth c A dC dI dA Qs hS H locs ad lsA hW hD
  obtain ⟨hx, hb, hml, hown, hts, hnw, hK, hnm, hA, hsc, hR⟩ := id hS
  obtain ⟨h1, h2⟩ := i32_in hz hn hD.hd
  have ho : o < K.1.length := (List.getElem?_eq_some_iff.mp hsh).1
  have ho' : o' < K.1.length := hW.2.2.2.2.1.1 o n o' ho hr
  have h := k N0 ad0 p l env s m args below meth c A dC dI dA Qs hS H locs ad lsA hW (hD.sk (ok_cons (v := vR o') (Or.inl ho') (List.forall_mem_cons.mp hD.tl).2))
  have hc := conc_at (dA := dA) (ad := ad) (hi := hi) (hl := hl) hsh
  have hlt : (i32 z).toNatClampNeg < len := by rw [h2]; exact hn
  have hty : (tysOf dA)[t + 3]? = some (dA (t + 3), ktOf (t + 3)) := tys_at dA (by omega)
  have href : (ktOf (t + 3)).isReference = true := by rcases (show t = 0 ∨ t = 1 ∨ t = 2 by omega) with rfl | rfl | rfl <;> rfl
  refine W.aald (v := va_rf ((K.2 o n).map ad)) (ty := ktOf (t + 3)) hx hb (hW.1 o _ hc) ((hK.2 (t + 3) _ hty).1 len (fun j => va_rf ((K.2 o j).map ad))) href (fun q => by cases q) (by show ¬ (i32 z < 0 ∨ (arrV _ _ _).slots.size ≤ _); rw [arrV_size]; exact h1) (by show (arrV _ _ _).slots[_]? = _; rw [arrV_read _ _ hlt, h2]) rfl rfl hd ?_
  rw [hr]
  exact h

theorem V.iast {o len : Nat} {z x : Int} (n : Nat) (hd : decode e.2.1 pc = .ok (.iastore, 1)) (hsh : K.1[o]? = some (.inl (0, len))) (hz : z = n) (hn : n < len) (k : V e sc K (pc + 1) ls st (up2 hi o n x) hl cs ss Q) : V e sc K pc ls (vI x :: vI z :: vR o :: st) hi hl cs ss Q := by
  intro N0 ad0 p l env s m args below meth c A dC dI dA Qs hS H locs ad lsA hW hD
  obtain ⟨hx, hb, hml, hown, hts, hnw, hK, hnm, hA, hsc, hR⟩ := id hS
  have hxr : okV K.1.length (vI x) := hD.hd
  have hs1 := (List.forall_mem_cons.mp hD.tl)
  obtain ⟨h1, h2⟩ := i32_in hz hn hs1.1
  have hs2 := (List.forall_mem_cons.mp hs1.2).2
  refine va_iast hx hb hK hW.1 hW.2.1 hW.2.2.1 o 0 (conc_at hsh) rfl h1 hd (fun H1 locs1 hP1 hD1 hS1 => ?_)
  have ef : upd (fun j => i32 (hi o j)) (i32 z).toNatClampNeg (i32 x) = (fun j => i32 (up2 hi o n x o j)) := by
    rw [h2]
    funext j
    by_cases hj : j = n <;> simp [upd, up2, hj]
  rw [ef] at hP1 hD1
  have es := conc_set (dA := dA) (ad := ad) (K := K) (K' := K) (hi := hi) (hl := hl) (hi' := up2 hi o n x) (hl' := hl) hsh rfl (fun _ _ => rfl) (fun y hy => by first | rfl | exact up2_a hy) (fun y hy => by first | rfl | exact up2_a hy)
  have es2 := es
  unfold cellOf at es2
  rw [es2] at hP1 hD1
  exact k N0 ad0 p l env s m args below meth c A dC dI dA Qs hS H1 locs1 ad lsA ⟨hP1, hD1, hS1, wf_up2 hW.2.2.2.1 hxr, hW.2.2.2.2⟩ (hD.sk hs2)

theorem V.last {o len : Nat} {z x : Int} (n : Nat) (hd : decode e.2.1 pc = .ok (.lastore, 1)) (hsh : K.1[o]? = some (.inl (1, len))) (hz : z = n) (hn : n < len) (k : V e sc K (pc + 1) ls st hi (up2 hl o n x) cs ss Q) : V e sc K pc ls (vL x :: vI z :: vR o :: st) hi hl cs ss Q := by
  intro N0 ad0 p l env s m args below meth c A dC dI dA Qs hS H locs ad lsA hW hD
  obtain ⟨hx, hb, hml, hown, hts, hnw, hK, hnm, hA, hsc, hR⟩ := id hS
  have hxr : okV K.1.length (vL x) := hD.hd
  have hs1 := (List.forall_mem_cons.mp hD.tl)
  obtain ⟨h1, h2⟩ := i32_in hz hn hs1.1
  have hs2 := (List.forall_mem_cons.mp hs1.2).2
  refine va_last hx hb hK hW.1 hW.2.1 hW.2.2.1 o 1 (conc_at hsh) rfl h1 hd (fun H1 locs1 hP1 hD1 hS1 => ?_)
  have ef : vp_updL (fun j => i64 (hl o j)) (i32 z).toNatClampNeg (i64 x) = (fun j => i64 (up2 hl o n x o j)) := by
    rw [h2]
    funext j
    by_cases hj : j = n <;> simp [vp_updL, up2, hj]
  rw [ef] at hP1 hD1
  have es := conc_set (dA := dA) (ad := ad) (K := K) (K' := K) (hi := hi) (hl := hl) (hi' := hi) (hl' := up2 hl o n x) hsh rfl (fun _ _ => rfl) (fun y hy => by first | rfl | exact up2_a hy) (fun y hy => by first | rfl | exact up2_a hy)
  have es2 := es
  unfold cellOf at es2
  rw [es2] at hP1 hD1
  exact k N0 ad0 p l env s m args below meth c A dC dI dA Qs hS H1 locs1 ad lsA ⟨hP1, hD1, hS1, wf_up2L hW.2.2.2.1 hxr, hW.2.2.2.2⟩ (hD.sk hs2)

theorem V.zast {o len : Nat} {z x : Int} (n : Nat) (hd : decode e.2.1 pc = .ok (.bastore, 1)) (hsh : K.1[o]? = some (.inl (2, len))) (hz : z = n) (hn : n < len) (h01 : x = 0 ∨ x = 1) (k : V e sc K (pc + 1) ls st (up2 hi o n x) hl cs ss Q) : V e sc K pc ls (vI x :: vI z :: vR o :: st) hi hl cs ss Q := by
  intro N0 ad0 p l env s m args below meth c A dC dI dA Qs hS H locs ad lsA hW hD
  obtain ⟨hx, hb, hml, hown, hts, hnw, hK, hnm, hA, hsc, hR⟩ := id hS
  have hxr : okV K.1.length (vI x) := hD.hd
  have hs1 := (List.forall_mem_cons.mp hD.tl)
  obtain ⟨h1, h2⟩ := i32_in hz hn hs1.1
  have hs2 := (List.forall_mem_cons.mp hs1.2).2
  refine va_zast hx hb hK hW.1 hW.2.1 hW.2.2.1 o 2 (conc_at hsh) rfl h1 hd (fun H1 locs1 hP1 hD1 hS1 => ?_)
  have en : vp_nar .boolean (i32 x) = i32 x := by rcases h01 with rfl | rfl <;> decide +kernel
  have ef : upd (fun j => i32 (hi o j)) (i32 z).toNatClampNeg (vp_nar .boolean (i32 x)) = (fun j => i32 (up2 hi o n x o j)) := by
    rw [h2, en]
    funext j
    by_cases hj : j = n <;> simp [upd, up2, hj]
  rw [ef] at hP1 hD1
  have es := conc_set (dA := dA) (ad := ad) (K := K) (K' := K) (hi := hi) (hl := hl) (hi' := up2 hi o n x) (hl' := hl) hsh rfl (fun _ _ => rfl) (fun y hy => up2_a hy) (fun y hy => rfl)
  have es2 := es
  unfold cellOf at es2
  rw [es2] at hP1 hD1
  exact k N0 ad0 p l env s m args below meth c A dC dI dA Qs hS H1 locs1 ad lsA ⟨hP1, hD1, hS1, wf_up2 hW.2.2.2.1 hxr, hW.2.2.2.2⟩ (hD.sk hs2)

theorem V.stlen {idx N : Nat} {n : String} {f : Nat → Int} (hsz : ∀ (A : Nat → Prop) (s : State), SZ A s → SZ1 n N f A s) (hl2 : Cond.fieldLink e.1.cls idx "ParrotCourt" n "[I" ∈ GT) (hd : decode e.2.1 pc = .ok (.getstatic idx, 3)) (hd2 : decode e.2.1 (pc + 3) = .ok (.arraylength, 1)) (hN : N < 2147483648) (k : V e sc K (pc + 4) ls (vI N :: st) hi hl cs ss Q) : V e sc K pc ls st hi hl cs ss Q := by
  intro N0 ad0 p l env s m args below meth c A dC dI dA Qs hS H locs ad lsA hW hD
  obtain ⟨hx, hb, hml, hown, hts, hnw, hK, hnm, hA, hsc, hR⟩ := id hS
  obtain ⟨t, hZ, hT⟩ := hsz _ _ hsc.1
  have h := k N0 ad0 p l env s m args below meth c A dC dI dA Qs hS H locs ad lsA hW (hD.sk (ok_cons (v := vI N) (rI_n hN) hD.2.2.1))
  refine va_gets hx hb hZ hW.2.2.1 hown (hts _ hl2) (fun _ h9 => h9) hd ?_
  exact va_tlen hx hb hT hW.2.2.1 rfl hd2 h

theorem V.stld {idx N : Nat} {n : String} {f : Nat → Int} {kf : Fin 4} {z : Int} (j i : Nat) (x : Int) (hsz : ∀ (A : Nat → Prop) (s : State), SZ A s → SZ1 n N f A s) (hl2 : Cond.fieldLink e.1.cls idx "ParrotCourt" n "[I" ∈ GT) (hd : decode e.2.1 pc = .ok (.getstatic idx, 3)) (hd2 : decode e.2.1 (pc + 3) = .ok (.iload_n kf, 1)) (hd3 : decode e.2.1 (pc + 4) = .ok (.iaload, 1)) (hj : ls[j]? = some ((kf : Nat), vI z)) (hz : z = i) (hi9 : i < N) (hxf : f i = x) (hr : rI x) (k : V e sc K (pc + 5) ls (vI x :: st) hi hl cs ss Q) : V e sc K pc ls st hi hl cs ss Q := by
  subst hxf
  intro N0 ad0 p l env s m args below meth c A dC dI dA Qs hS H locs ad lsA hW hD
  obtain ⟨hx, hb, hml, hown, hts, hnw, hK, hnm, hA, hsc, hR⟩ := id hS
  obtain ⟨t, hZ, hT⟩ := hsz _ _ hsc.1
  have h := k N0 ad0 p l env s m args below meth c A dC dI dA Qs hS H locs ad lsA hW (hD.sk (ok_cons (v := vI (f i)) hr hD.2.2.1))
  obtain ⟨h1, h2⟩ := i32_in hz hi9 (ls_ok hj hD.2.1)
  refine va_gets hx hb hZ hW.2.2.1 hown (hts _ hl2) (fun _ h9 => h9) hd ?_
  refine lv_iload_n hx hb hd2 rfl (lv_at hD.1 j (lsC_at hj)) ?_
  exact va_ti hx hb hT hW.2.2.1 h1 (by rw [h2]; rfl) hd3 h

end VRules
