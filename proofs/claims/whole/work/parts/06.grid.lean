/-! new T[n][m]: one outer array, n inner ones behind it -/
/-- the outer array's cell when i of its n places are filled -/
def mgO (cO : ClassId) (N h0 i : Nat) : Cell := arrV cO N (fun j => va_rf (if j < i then some (h0 + 1 + j) else none))
def mgI (cI : ClassId) (M : Nat) (dv : Value) : Cell := arrV cI M (fun _ => dv)
def mgS (T : State) (cO cI : ClassId) (N M : Nat) (dv : Value) : Nat → State
  | 0 => T.pushCell (mgO cO N T.heap.size 0)
  | i + 1 => ((mgS T cO cI N M dv i).pushCell (mgI cI M dv)).setCell T.heap.size (mgO cO N T.heap.size (i + 1))
theorem mgO_size {cO : ClassId} {N h0 i : Nat} : (mgO cO N h0 i).slots.size = N := arrV_size _ _ _
theorem mgI_size {cI : ClassId} {M : Nat} {dv : Value} : (mgI cI M dv).slots.size = M := arrV_size _ _ _
theorem mgO_next (cO : ClassId) (N h0 i : Nat) : (mgO cO N h0 i).setSlot i (.ref (h0 + 1 + i)) = mgO cO N h0 (i + 1) := by
  unfold mgO
  rw [arrV_store]
  refine congrArg (arrV cO N) (funext fun j => ?_)
  unfold updV
  by_cases e : j = i
  · subst e; simp [va_rf]
  · rw [if_neg e]
    show va_rf (if j < i then some (h0 + 1 + j) else none) = va_rf (if j < i + 1 then some (h0 + 1 + j) else none)
    by_cases h : j < i
    · rw [if_pos h, if_pos (by omega)]
    · rw [if_neg h, if_neg (by omega)]
section MG
variable {T : State} {cO cI : ClassId} {N M : Nat} {dv : Value}
theorem mgS_size : ∀ i, (mgS T cO cI N M dv i).heap.size = T.heap.size + 1 + i
  | 0 => by simp [mgS]
  | i + 1 => by
    have h := mgS_size i
    simp [mgS, State.setCell, h]; omega
theorem mgS_vm : ∀ i, (mgS T cO cI N M dv i).vm = T.vm
  | 0 => rfl
  | i + 1 => by
    have h := mgS_vm i
    simp [mgS, h]
theorem mgS_used : ∀ i, (mgS T cO cI N M dv i).slotsUsed = T.slotsUsed + N + i * M
  | 0 => by simp [mgS, mgO_size]
  | i + 1 => by
    have h := mgS_used i
    simp [mgS, h, mgI_size, Nat.succ_mul]; omega
theorem mgS_out : ∀ i, (mgS T cO cI N M dv i).heap[T.heap.size]? = some (mgO cO N T.heap.size i)
  | 0 => State.heap_pushCell_size _ _
  | i + 1 => by
    have h := mgS_out i
    have hz := mgS_size (T := T) (cO := cO) (cI := cI) (N := N) (M := M) (dv := dv) i
    have h2 : ((mgS T cO cI N M dv i).pushCell (mgI cI M dv)).heap[T.heap.size]? = some (mgO cO N T.heap.size i) := by
      have hlt : T.heap.size < (mgS T cO cI N M dv i).heap.size := by rw [hz]; omega
      rw [State.heap_pushCell_of_lt (h := hlt)]; exact h
    exact State.heap_setCell_self h2
theorem mgS_old {a : Nat} (ha : a < T.heap.size) : ∀ i, (mgS T cO cI N M dv i).heap[a]? = T.heap[a]?
  | 0 => State.heap_pushCell_of_lt _ _ ha
  | i + 1 => by
    have h := mgS_old ha i
    have hz := mgS_size (T := T) (cO := cO) (cI := cI) (N := N) (M := M) (dv := dv) i
    show (((mgS T cO cI N M dv i).pushCell (mgI cI M dv)).setCell T.heap.size _).heap[a]? = _
    have hlt : a < (mgS T cO cI N M dv i).heap.size := by rw [hz]; omega
    rw [State.heap_setCell_other (Nat.ne_of_gt ha), State.heap_pushCell_of_lt (h := hlt)]
    exact h
theorem mgS_in : ∀ i j, j < i → (mgS T cO cI N M dv i).heap[T.heap.size + 1 + j]? = some (mgI cI M dv)
  | 0, _, h => absurd h (Nat.not_lt_zero _)
  | i + 1, j, h => by
    have hz := mgS_size (T := T) (cO := cO) (cI := cI) (N := N) (M := M) (dv := dv) i
    show (((mgS T cO cI N M dv i).pushCell (mgI cI M dv)).setCell T.heap.size _).heap[T.heap.size + 1 + j]? = _
    rw [State.heap_setCell_other (show T.heap.size ≠ T.heap.size + 1 + j by omega)]
    by_cases hj : j < i
    · have hlt : T.heap.size + 1 + j < (mgS T cO cI N M dv i).heap.size := by rw [hz]; omega
      rw [State.heap_pushCell_of_lt (h := hlt)]
      exact mgS_in i j hj
    · rw [show T.heap.size + 1 + j = (mgS T cO cI N M dv i).heap.size by rw [hz]; omega]
      exact State.heap_pushCell_size _ _
theorem mgS_top (f : JFrame) : ∀ i, mgS (T.setTop f) cO cI N M dv i = (mgS T cO cI N M dv i).setTop f
  | 0 => rfl
  | i + 1 => by
    show ((mgS (T.setTop f) cO cI N M dv i).pushCell _).setCell _ _ = _
    rw [mgS_top f i]
    rfl
end MG
section MGW
variable {E : CtlPost} {e : Env} {d : Bool} {acts : List Action} {s : State}
theorem mg_new {c comp : ClassId} {k : Class} {type : FieldType} {len : Nat} {init : Value} (hk : s.vm.classes[c]? = some k) (hkind : k.kind = .array comp type)
    (hlimit : ¬ len > e.platform.arrayLengthLimit) (hheap : ¬ len * componentBytes type > e.platform.maxHeapBytes) (hfit : fits type init = true) (hdef : init.isDefault = true) {Q : Addr → Pre}
    (h1 : s.heap.size < e.platform.maxCells) (h2 : s.slotsUsed + len ≤ e.platform.maxSlots) (hq : Q s.heap.size d acts (s.pushCell (arrV c len (fun _ => init)))) : wp (Jvm.newArray c len init) Q E e d acts s := by
  have hfits : ∀ i v, (Array.replicate len init)[i]? = some v → s.fitsSlot c .none i v = true := by
    intro i v hv
    rw [Array.getElem?_replicate] at hv
    by_cases hi : i < len
    · rw [if_pos hi] at hv; cases hv; simp [State.fitsSlot, State.slotType?, hk, hkind, hfit]
    · rw [if_neg hi] at hv; cases hv
  have hact : allocActs (Array.replicate len init) s.heap.size acts = acts := by
    unfold allocActs
    rw [if_pos (by rw [Array.all_replicate]; split <;> simp [hdef])]
  rw [← arrV_new] at hq
  simp only [Jvm.newArray, Jvm.arrayFits, wp_bind', Jvm.W.ask, Jvm.W.ite, hlimit, if_false, wp_pure', Jvm.W.theClass, hk, hkind, hheap, Jvm.W.alloc, Jvm.W.stop, Option.some.injEq, exists_eq_left', Array.size_replicate, hact]
  rw [if_neg (by omega)]
  exact ⟨h1, h2, hfits, hq⟩
theorem mg_make {cO cI cc : ClassId} {k kc : Class} {ty : FieldType} {n m : Int32} (hk : s.vm.classes[cO]? = some k) (hkind : k.kind = .array cI (.array ty)) (hkc : s.vm.classes[cI]? = some kc) (hkindc : kc.kind = .array cc ty) (hn : ¬ n < 0) (hm : ¬ m < 0)
    (hl1 : ¬ n.toNatClampNeg > e.platform.arrayLengthLimit) (hh1 : ¬ n.toNatClampNeg * componentBytes (.array ty) > e.platform.maxHeapBytes) (hl2 : ¬ m.toNatClampNeg > e.platform.arrayLengthLimit) (hh2 : ¬ m.toNatClampNeg * componentBytes ty > e.platform.maxHeapBytes)
    (hdf : fits ty (defaultValue ty) = true) (hdd : (defaultValue ty).isDefault = true) (hc : s.heap.size + 1 + n.toNatClampNeg ≤ e.platform.maxCells) (hs : s.slotsUsed + n.toNatClampNeg + n.toNatClampNeg * m.toNatClampNeg ≤ e.platform.maxSlots)
    {Q : Addr → Pre} (hq : ∀ d' acts', Q s.heap.size d' acts' (mgS s cO cI n.toNatClampNeg m.toNatClampNeg (defaultValue ty) n.toNatClampNeg)) : wp (Op.multianewarray.make cO [n, m]) Q E e d acts s := by
  have hnone : ([m].find? (· < 0)) = none := by simp [hm]
  have hmn : ∀ i, i < n.toNatClampNeg → i * m.toNatClampNeg + m.toNatClampNeg ≤ n.toNatClampNeg * m.toNatClampNeg := fun i hi => by
    have := Nat.mul_le_mul_right m.toNatClampNeg (show i + 1 ≤ n.toNatClampNeg from hi)
    rw [Nat.succ_mul] at this; exact this
  rw [Op.multianewarray.make]
  simp only [wp_bind', Jvm.W.ite, hn, if_false, wp_pure', Jvm.W.theClass, hk, hkind, Option.some.injEq, exists_eq_left']
  refine mg_new hk hkind hl1 hh1 rfl rfl (by omega) (by omega) ?_
  simp only [hnone]
  rw [ite_self, wp_bind', Std.Legacy.Range.forIn_eq_forIn_range']
  rw [show ([:n.toNatClampNeg] : Std.Legacy.Range).size = n.toNatClampNeg by simp [Std.Legacy.Range.size]]
  show wp (forIn (List.range' 0 n.toNatClampNeg 1) PUnit.unit _) _ E e d acts _
  refine wp_forIn_inv (fun rest s' => ∃ i, i ≤ n.toNatClampNeg ∧ rest = List.range' i (n.toNatClampNeg - i) ∧ s' = mgS s cO cI n.toNatClampNeg m.toNatClampNeg (defaultValue ty) i) _ _ ⟨0, Nat.zero_le _, rfl, ?_⟩ ?_ ?_
  · show s.pushCell _ = s.pushCell _
    unfold mgO
    refine congrArg s.pushCell (congrArg (arrV cO n.toNatClampNeg) (funext fun j => ?_))
    rw [if_neg (Nat.not_lt_zero j)]; rfl
  · rintro x rest s' d' acts' Q' ⟨i, hi, hl, rfl⟩ hnext
    have hlt : i < n.toNatClampNeg := by
      rcases Nat.lt_or_ge i n.toNatClampNeg with h | h
      · exact h
      · rw [show n.toNatClampNeg - i = 0 by omega] at hl; simp at hl
    rw [show n.toNatClampNeg - i = (n.toNatClampNeg - (i + 1)) + 1 by omega, List.range'_succ] at hl
    obtain ⟨rfl, rfl⟩ := List.cons.inj hl
    have hz := mgS_size (T := s) (cO := cO) (cI := cI) (N := n.toNatClampNeg) (M := m.toNatClampNeg) (dv := defaultValue ty) x
    have hv := mgS_vm (T := s) (cO := cO) (cI := cI) (N := n.toNatClampNeg) (M := m.toNatClampNeg) (dv := defaultValue ty) x
    have hu := mgS_used (T := s) (cO := cO) (cI := cI) (N := n.toNatClampNeg) (M := m.toNatClampNeg) (dv := defaultValue ty) x
    have ho := mgS_out (T := s) (cO := cO) (cI := cI) (N := n.toNatClampNeg) (M := m.toNatClampNeg) (dv := defaultValue ty) x
    have hb := hmn x hlt
    simp only [wp_bind']
    rw [Op.multianewarray.make]
    simp only [wp_bind', Jvm.W.ite, hm, if_false, wp_pure', Jvm.W.theClass, hv, hkc, hkindc, Option.some.injEq, exists_eq_left']
    refine mg_new (by rw [hv]; exact hkc) hkindc hl2 hh2 hdf hdd (by rw [hz]; omega) (by rw [hu]; omega) ?_
    simp only [wp_bind', Jvm.W.writeLoc, wp_pure']
    have hlt0 : s.heap.size < (mgS s cO cI n.toNatClampNeg m.toNatClampNeg (defaultValue ty) x).heap.size := by rw [hz]; omega
    refine ⟨mgO cO n.toNatClampNeg s.heap.size x, by rw [State.heap_pushCell_of_lt (h := hlt0)]; exact ho, by simp [mgO, arrV], by rw [mgO_size]; exact hlt, ?_, hnext _ _ _ ⟨x + 1, hlt, rfl, ?_⟩⟩
    · show State.fitsSlot _ cO .none x _ = true
      simp [State.fitsSlot, State.slotType?, hv, hk, hkind, fits]
    · rw [hz, mgO_next]; rfl
  · rintro s' d' acts' ⟨i, hi, hl, rfl⟩
    have hiN : i = n.toNatClampNeg := by
      rcases Nat.lt_or_ge i n.toNatClampNeg with h | h
      · rw [show n.toNatClampNeg - i = (n.toNatClampNeg - (i + 1)) + 1 by omega, List.range'_succ] at hl; cases hl
      · omega
    subst hiN
    simp only [wp_pure']
    exact hq _ _
end MGW
section MGS
variable {p : Program} {l : Launch} {e : Env} {R : Room} {s : State} {m : MethodId} {args : Array Value} {below : List Frame} {meth : Method} {c : Code} {T : State} {locs : List Loc} {cells slots : Nat}
def mgL (h0 n : Nat) : List Loc := (List.range n).map (fun j => ⟨h0, j⟩)
theorem mg_stand (X : Stand p l e R s m args below meth c T locs cells slots) (cO cI : ClassId) (N M : Nat) (dv : Value) : ∀ i, Stand p l e R s m args below meth c (mgS T cO cI N M dv i) (locs ++ mgL T.heap.size i) (cells + 1 + i) (slots + N + i * M)
  | 0 => by
    have h := X.pushed (mgO cO N T.heap.size 0)
    rw [mgO_size] at h
    simpa [mgS, mgL] using h
  | i + 1 => by
    have h0 := mg_stand X cO cI N M dv i
    have hz := mgS_size (T := T) (cO := cO) (cI := cI) (N := N) (M := M) (dv := dv) i
    have hlt : T.heap.size < (mgS T cO cI N M dv i).heap.size := by rw [hz]; omega
    have hcell : ((mgS T cO cI N M dv i).pushCell (mgI cI M dv)).heap[T.heap.size]? = some (mgO cO N T.heap.size i) := by
      rw [State.heap_pushCell_of_lt (h := hlt)]; exact mgS_out i
    have h1 := (h0.pushed (mgI cI M dv)).stored hcell i (.ref (T.heap.size + 1 + i))
    rw [mgO_next, mgI_size] at h1
    have e2 : locs ++ mgL T.heap.size (i + 1) = (locs ++ mgL T.heap.size i) ++ [⟨T.heap.size, i⟩] := by simp [mgL, List.range_succ]
    have e3 : slots + N + (i + 1) * M = slots + N + i * M + M := by rw [Nat.succ_mul]; omega
    rw [e2, e3]
    exact h1
theorem mg_step (X : Stand p l e R s m args below meth c T locs cells slots) (hexec : p.tables.exec = Jvm.exec) {own C : String} {index : Nat} {ty : FieldType} {cO cI cc : ClassId} {kO kI : Class}
    (hown : s.vm.findClass own = some m.cls) (hclink : (Cond.classLink own index C).before args s = true) (hC : s.vm.findClass C = some cO) (hkO : s.vm.classes[cO]? = some kO) (hkindO : kO.kind = .array cI (.array ty)) (hkI : s.vm.classes[cI]? = some kI) (hkindI : kI.kind = .array cc ty)
    {g : JFrame} (hg : g.method = m) (hdg : decode c.code g.pc = .ok (.multianewarray index 2, 4)) {n k : Int32} {rest : List Value} (hstack : g.stack = .int k :: .int n :: rest)
    (hn : ¬ n < 0) (hk : ¬ k < 0) (hb1 : n.toNatClampNeg * 4 ≤ 536870912) (hb2 : k.toNatClampNeg * componentBytes ty ≤ 536870912) (hb3 : k.toNatClampNeg ≤ 536870912) (hdf : fits ty (defaultValue ty) = true) (hdd : (defaultValue ty).isDefault = true)
    (hcells : cells + (1 + n.toNatClampNeg) ≤ R.cells) (hslots : slots + (n.toNatClampNeg + n.toNatClampNeg * k.toNatClampNeg) ≤ R.slots) :
    ∃ vm₁ : Vm, Stand p l e R s m args below meth c (mgS (T.setVm vm₁) cO cI n.toNatClampNeg k.toNatClampNeg (defaultValue ty) n.toNatClampNeg) (locs ++ mgL T.heap.size n.toNatClampNeg) (cells + 1 + n.toNatClampNeg) (slots + n.toNatClampNeg + n.toNatClampNeg * k.toNatClampNeg) ∧
      ∀ target, Steps p.tables e below ((mgS (T.setVm vm₁) cO cI n.toNatClampNeg k.toNatClampNeg (defaultValue ty) n.toNatClampNeg).setTop { g with pc := g.pc + 4, stack := .ref T.heap.size :: rest }) target → Steps p.tables e below (T.setTop g) target := by
  subst hg
  have hpl : e.platform.magicAccessors = ({} : Platform).magicAccessors := by rw [X.admits.platform]
  obtain ⟨c0, hfc0, hcl⟩ := Cond.classLink_spec hown hclink e.platform hpl
  cases hC.symm.trans hfc0
  obtain ⟨hg₁, hwarm₁, hready₁⟩ := State.classEntry (e := e) X.warmed hcl
  generalize T.vm.noted g.method.cls index (.cls cO) = vm₁ at hg₁ hwarm₁ hready₁
  have hal : s.vm.Alike vm₁ := hwarm₁.alike
  obtain ⟨kO₁, hkO₁, heO⟩ := hal.2.2 _ _ hkO
  obtain ⟨kI₁, hkI₁, heI⟩ := hal.2.2 _ _ hkI
  have hkindO₁ : kO₁.kind = .array cI (.array ty) := by rw [heO]; exact hkindO
  have hkindI₁ : kI₁.kind = .array cc ty := by rw [heI]; exact hkindI
  have X₁ := X.noted hwarm₁
  have XF := mg_stand X₁ cO cI n.toNatClampNeg k.toNatClampNeg (defaultValue ty) n.toNatClampNeg
  obtain ⟨hr1, hr2⟩ := X.roomAbove hcells hslots
  have hl1 : ¬ n.toNatClampNeg > e.platform.arrayLengthLimit := by rw [Launch.admits_arrayLengthLimit X.admits]; omega
  have hh1 : ¬ n.toNatClampNeg * componentBytes (.array ty) > e.platform.maxHeapBytes := by rw [Launch.admits_maxHeapBytes X.admits]; show ¬ n.toNatClampNeg * 4 > 536870912; omega
  have hl2 : ¬ k.toNatClampNeg > e.platform.arrayLengthLimit := by rw [Launch.admits_arrayLengthLimit X.admits]; omega
  have hh2 : ¬ k.toNatClampNeg * componentBytes ty > e.platform.maxHeapBytes := by rw [Launch.admits_maxHeapBytes X.admits]; omega
  refine ⟨vm₁, XF, fun target hrest => ?_⟩
  jvm_step X.here [hexec, hdg]
  simp only [Op.multianewarray.sem, wp_bind', Jvm.W.resolveClassAt_links (State.method?_setTop g X.here.top) hg₁]
  rw [Jvm.W.popN, if_neg (by decide)]
  refine ⟨g, State.topJava?_setTop' (s := T.setVm vm₁) g X.here.top, [.int n, .int k], rest, rfl, hstack, ?_⟩
  simp only [List.mapM_cons, List.mapM_nil, wp_bind', wp_pure']
  refine mg_make (k := kO₁) (kc := kI₁) (cI := cI) (cc := cc) (ty := ty) hkO₁ hkindO₁ hkI₁ hkindI₁ hn hk hl1 hh1 hl2 hh2 hdf hdd (by show T.heap.size + 1 + _ ≤ _; omega) (by show T.slotsUsed + _ + _ ≤ _; omega) (fun d' acts' => ?_)
  have eS : ((T.setTop g).setVm vm₁).setTop { g with stack := rest } = (T.setVm vm₁).setTop { g with stack := rest } := by
    show ((T.setVm vm₁).setTop g).setTop _ = _
    rw [State.setTop_setTop]
  rw [eS, mgS_top]
  simp only [wp_bind', Jvm.W.mark, Jvm.W.pushRef, State.topJava?_setTop' _ XF.here.top, Option.some.injEq, exists_eq_left', State.setTop_setTop, State.heap_setTop]
  intro acts
  simp [jvm, XF.here.top]
  exact hrest
end MGS
