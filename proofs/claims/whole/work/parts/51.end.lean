/-! THE CLAIM OUT OF ONE WALK OF THE LAW'S BODY. Your part is whole_start (and what it stands on); all else here is the same for every law, but numbers. -/
def R_law : String := "ParrotCourtLaw"
def lw_P (b : Addr) (xs : List Int32) (args : Array Value) (s : State) : Prop := args = #[.ref b] ∧ s.IntsAt b xs ∧ xs.length ≤ 2560 ∧ (Jvm.Cond.and given_1 narrow_1).before args s = true
def lw_Q (_ : Array Value) (s : State) (o : Outcome) (t : State) : Prop := o = .returned (some (.int 1)) ∧ Framed s o t [] 600000 7302250
def lw_Z (below : List Frame) (a : Array Value) (s : State) : State → Prop := fun t => ∃ o, t.status = .running ∧ Ended t below o ∧ lw_Q a s o t
/-- the law's own end, with 1 on the stack, nothing written that was there before, its room as the claim has it -/
theorem lw_ret {p : Program} {l : Launch} {e : Env} {s : State} {m : MethodId} {below : List Frame} {meth : Method} {c : Code} {b : Nat} (hx : p.tables.exec = Jvm.exec) (hb : c.code = code) (hr : meth.sig.returnType = ret) (hlocks : meth.locks = false) {pc : Nat} {H : Heap} {ls : Array Slot} (hdg : decode code pc = .ok (.ireturn, 1)) : W p l e room_1 s m #[Value.ref b] below meth c H [] 600000 7302250 (lw_Z below #[Value.ref b] s) (F0 m pc ls [.int 1]) := by
  intro T hT X
  obtain ⟨fs, hret, hrun, hended, hW, hframe⟩ := X.leave (v := some (.int 1)) (hlocks := hlocks) (fun h => by rw [hr] at h; cases h)
  have hmeth' : T.vm.method? m = some meth := X.method'
  refine ⟨T.setFrames fs, ?_, .returned (some (.int 1)), hrun, hended, rfl, ⟨_, rfl⟩, hW, hframe⟩
  jvm_step X.here [X.here.top, hx, hb, hdg, hmeth', hr, ret, narrow_b1]
  (try refine ⟨rfl, ?_⟩); (try refine ⟨rfl, ?_⟩)
  first | (intro acts; rw [hret _ acts rfl rfl rfl]) | rw [hret _ _ rfl rfl rfl]
  exact Steps.refl _
/-- what holds at the law's entry: the machine, the code, the tables' words (any of lw_tbl by 'hts w (by decide +kernel)'), the script of L ints xs at the cell b, what the Statement gives of the start (any of its parts by flat_of_before) -/
def lw_At (p : Program) (s : State) (m : MethodId) (meth : Method) (c : Code) (b L : Nat) (xs : Nat → Int32) : Prop :=
  p.tables.exec = Jvm.exec ∧ c.code = code ∧ meth.sig.returnType = ret ∧ c.maxLocals = 4 ∧ s.vm.findClass R_law = some m.cls ∧ (∀ w ∈ lw_tbl, w.before #[Value.ref b] s = true) ∧ va_X b L xs s s.heap ∧ b < s.heap.size ∧ meth.locks = false ∧ (Jvm.Cond.and given_1 narrow_1).before #[Value.ref b] s = true ∧ meth.name = yL_law.name
theorem ao_arr {args : Array Value} {s : State} {t : FieldType} (h : (Cond.arrayOver (.array t)).before args s = true) : ∃ comp c k, s.vm.findClass (FieldType.array t).toString = some comp ∧ s.vm.classes[c]? = some k ∧ k.kind = .array comp (.array t) ∧ s.vm.findClass ("[" ++ (FieldType.array t).toString) = some c := by
  simp only [Cond.before, Cond.holds, Cond.value, beq_iff_eq] at h
  cases hc : s.vm.findClass (FieldType.array t).toString with
  | none => simp [hc] at h
  | some comp =>
    simp only [hc, Option.bind_some, Option.bind_eq_some_iff, Option.map_eq_some_iff] at h
    obtain ⟨c, hi, k, hk, hb⟩ := h
    obtain ⟨hlt, hp, -⟩ := Array.findIdx?_eq_some_iff_getElem.mp hi
    have hkk : s.vm.classes[c] = k := (Array.getElem?_eq_some_iff.mp hk).2
    rw [hkk] at hp
    cases hkind : k.kind with
    | array component ty =>
      rw [hkind] at hb hp
      simp at hb hp
      exact ⟨comp, c, k, rfl, hk, by rw [hkind, hp, hb.1], hb.2⟩
    | _ => rw [hkind] at hb; simp at hb
theorem ib_all : ∀ c, c < 9 → Cond.instantiable (Rn c) (nF c) ∈ GT := by
  intro c hc
  rcases (show c = 0 ∨ c = 1 ∨ c = 2 ∨ c = 3 ∨ c = 4 ∨ c = 5 ∨ c = 6 ∨ c = 7 ∨ c = 8 by omega) with rfl | rfl | rfl | rfl | rfl | rfl | rfl | rfl | rfl
  · exact ib0
  · exact ib1
  · exact ib2
  · exact ib3
  · exact ib4
  · exact ib5
  · exact ib6
  · exact ib7
  · exact ib8
/-- the classes of the arrays, by their kinds -/
theorem lw_arrays {s : State} {args : Array Value} (hts : ∀ w ∈ lw_tbl, w.before args s = true) : ∃ dA : Nat → ClassId, (∀ (k : Nat) (q : ClassId × FieldType), (tysOf dA)[k]? = some q → ArrOfT s q.1 q.2 ∧ va_RA s q.1 q.2) ∧ MOv (dA 4) (dA 0) .int s ∧ MOv (dA 5) (dA 1) .long s := by
  have ht : ∀ w ∈ tables_1, w.before args s = true := fun w hw => hts w (List.mem_append_right _ hw)
  obtain ⟨c0, k0, m0, f0, g0, e0⟩ := Cond.arrayClass_spec (ht (Cond.arrayClass .int) (List.mem_of_getElem? (i := 61) (by decide +kernel)))
  obtain ⟨c1, k1, m1, f1, g1, e1⟩ := Cond.arrayClass_spec (ht (Cond.arrayClass .long) (List.mem_of_getElem? (i := 213) (by decide +kernel)))
  obtain ⟨c2, k2, m2, f2, g2, e2⟩ := Cond.arrayClass_spec (ht (Cond.arrayClass .boolean) (List.mem_of_getElem? (i := 170) (by decide +kernel)))
  obtain ⟨m3, c3, k3, f3, i3, g3, e3, n3⟩ := Cond.arrayOver_spec (ht (Cond.arrayOver (.object "ParrotCourt$Court")) (List.mem_of_getElem? (i := 148) (by decide +kernel)))
  obtain ⟨m4, c4, k4, f4, g4, e4, n4⟩ := ao_arr (ht (Cond.arrayOver (.array .int)) (List.mem_of_getElem? (i := 178) (by decide +kernel)))
  obtain ⟨m5, c5, k5, f5, g5, e5, n5⟩ := ao_arr (ht (Cond.arrayOver (.array .long)) (List.mem_of_getElem? (i := 180) (by decide +kernel)))
  have h4 : m4 = c0 := Option.some.inj (f4.symm.trans f0)
  have h5 : m5 = c1 := Option.some.inj (f5.symm.trans f1)
  refine ⟨fun t => match t with | 0 => c0 | 1 => c1 | 2 => c2 | 3 => c3 | 4 => c4 | _ => c5, fun k q hq => ?_, ⟨k4, g4, by rw [h4] at e4; exact e4⟩, ⟨k5, g5, by rw [h5] at e5; exact e5⟩⟩
  match k, hq with
  | 0, hq => cases hq; exact ⟨fun n z => ⟨(fun k h => by cases h), k0, g0, m0, e0⟩, f0⟩
  | 1, hq => cases hq; exact ⟨fun n z => ⟨(fun k h => by cases h), k1, g1, m1, e1⟩, f1⟩
  | 2, hq => cases hq; exact ⟨fun n z => ⟨(fun k h => by cases h), k2, g2, m2, e2⟩, f2⟩
  | 3, hq => cases hq; exact ⟨fun n z => ⟨(fun k h => by cases h), k3, g3, m3, e3⟩, k3, m3, g3, e3, f3, n3⟩
  | 4, hq => cases hq; exact ⟨fun n z => ⟨(fun k h => by cases h), k4, g4, m4, e4⟩, n4⟩
  | 5, hq => cases hq; exact ⟨fun n z => ⟨(fun k h => by cases h), k5, g5, m5, e5⟩, n5⟩
  | k + 6, hq => exact absurd hq (by simp [tysOf])
/-- the two static arrays at the law's start -/
theorem lw_SZ1 {args : Array Value} {s : State} {n : String} {N : Nat} {f : Nat → Int} {A : Nat → Prop} (hl : (Cond.laysStatic "ParrotCourt" n "[I").before args s = true) (hini : (Cond.initialized "ParrotCourt").before args s = true) (hN : N < 2 ^ 31) (harr : (Cond.arrayOf (.static "ParrotCourt" n "[I") .int).before args s = true) (hlen : (Cond.eq (.length (.static "ParrotCourt" n "[I")) (.int (Int32.ofNat N))).before args s = true)
    (hel : ∀ j : Nat, j < N → (Cond.eq (.elem (.static "ParrotCourt" n "[I") (.int (Int32.ofNat j))) (.int (i32 (f j)))).before args s = true) (hA : ∀ a : Nat, a < s.heap.size → ¬ A a) : SZ1 n N f A s := by
  obtain ⟨t, h1, h2⟩ := va_Tof (f := fun j => .int (i32 (f j))) hN harr (va_eqt hlen) (fun j hj => va_eqt (hel j hj)) hA
  exact ⟨t, va_Zref hl hini h1 hA, h2⟩
theorem lw_SZ {args : Array Value} {s : State} {A : Nat → Prop} (hts : ∀ w ∈ lw_tbl, w.before args s = true) (hg : (Jvm.Cond.and given_1 narrow_1).before args s = true) (hA : ∀ a : Nat, a < s.heap.size → ¬ A a) : SZ A s := by
  have hs := flat_of_before _ hg
  have ht : ∀ w ∈ tables_1, w.before args s = true := fun w hw => hts w (List.mem_append_right _ hw)
  have hini : (Cond.initialized "ParrotCourt").before args s = true := ht _ (List.mem_of_getElem? (i := 1) (by decide +kernel))
  refine ⟨lw_SZ1 (ht _ (List.mem_of_getElem? (i := 37) (by decide +kernel))) hini (by decide) (hs _ (by decide +kernel)) (hs _ (by decide +kernel)) (fun j hj => ?_) hA, lw_SZ1 (ht _ (List.mem_of_getElem? (i := 46) (by decide +kernel))) hini (by decide) (hs _ (by decide +kernel)) (hs _ (by decide +kernel)) (fun j hj => ?_) hA⟩
  · rcases (show j = 0 ∨ j = 1 ∨ j = 2 ∨ j = 3 ∨ j = 4 ∨ j = 5 ∨ j = 6 by omega) with rfl | rfl | rfl | rfl | rfl | rfl | rfl <;> exact hs _ (by decide +kernel)
  · rcases (show j = 0 ∨ j = 1 ∨ j = 2 ∨ j = 3 ∨ j = 4 ∨ j = 5 by omega) with rfl | rfl | rfl | rfl | rfl | rfl <;> exact hs _ (by decide +kernel)
theorem i32_1 : i32 1 = (1 : Int32) := by decide +kernel
set_option maxRecDepth 100000 in
set_option maxHeartbeats 4000000 in
theorem whole_start {p : Program} {e : Env} {s : State} {m : MethodId} {below : List Frame} {meth : Method} {c : Code} (l : Launch) (hflags : l.flags = flags0) {b L : Nat} {xs : Nat → Int32} (hL : L ≤ 2560) (C0 : lw_At p s m meth c b L xs) : W p l e room_1 s m #[Value.ref b] below meth c s.heap [] 0 0 (lw_Z below #[Value.ref b] s) (entryFrame m ([Value.ref b] : List Value).toArray 4) := by
  obtain ⟨hx, hb, hr, hml, hown, hts, hX, hbl, hlk, hgv, hnm⟩ := C0
  have htG : ∀ w ∈ GT, w.before #[Value.ref b] s = true := fun w hw => hts w (List.mem_filter.mp hw).1
  have hKn : ∀ k, ∃ (cC : ClassId) (iS : Nat → Nat), k < 9 → u_Kn s (Rn k) (Tn k) (nF k) cC iS := by
    intro k
    by_cases hk : k < 9
    · obtain ⟨cC, iS, h⟩ := u_known htG (inU k hk) (htG _ (ib_all k hk))
      exact ⟨cC, iS, fun _ => h⟩
    · exact ⟨0, fun _ => 0, fun h => absurd h hk⟩
  have hK1 : ∀ k, k < 9 → u_Kn s (Rn k) (Tn k) (nF k) ((fun k => Classical.choose (hKn k)) k) ((fun k => Classical.choose (Classical.choose_spec (hKn k))) k) := fun k hk => Classical.choose_spec (Classical.choose_spec (hKn k)) hk
  generalize (fun k => Classical.choose (Classical.choose_spec (hKn k))) = dI at hK1
  generalize (fun k => Classical.choose (hKn k)) = dC at hK1
  obtain ⟨dA, hA1, hA2, hA3⟩ := lw_arrays hts
  have hK : va_K (dC, dI) vwCl (tysOf dA) s := by
    refine ⟨fun k q hq => ?_, hA1⟩
    have hk : k < 9 := (List.getElem?_eq_some_iff.mp hq).1
    rw [cl_at hk] at hq
    cases hq
    exact hK1 k hk
  have hNW : NWs dA s := by
    refine ⟨fun w hw => ?_, va_AO.of (hts _ (List.mem_append_right _ (List.mem_of_getElem? (i := 148) (by decide +kernel)))), hA2, hA3⟩
    have h1 := hts w (List.mem_filter.mp hw).1
    have h2 := (List.mem_filter.mp hw).2
    cases w <;> first | exact va_Nw.of rfl h1 | (simp [isNest] at h2)
  have hl0 := lv_entry ([Value.ref b]) (n := 4) (Nat.le_of_ble_eq_true rfl)
  rw [lg_entry_eq]
  have hxe : (fun j => i32 ((xs j).toInt)) = xs := funext (fun j => i32_eq)
  have hXX : va_X b L (fun j => i32 ((xs j).toInt)) s s.heap := by rw [hxe]; exact hX
  have hV := law_V (L := L) (xs := fun j => (xs j).toInt) (fun j => rI_toInt _) hL
  refine hV 0 (fun _ => b) p l e s m _ below meth c (fun q => s.heap.size ≤ q) dC dI dA _ ⟨hx, hb, hml, hown, htG, hNW, hK, hnm, fun q h => h, ⟨lw_SZ hts hgv (fun a ha => Nat.not_le.mpr ha), hXX, hbl, Nat.not_le.mpr hbl, fun j => rI_toInt _⟩, ?_⟩ s.heap [] (fun _ => b) _ ⟨fun k q h => ?_, ⟨fun i j p q h => ?_, fun k q h => ?_⟩, va_S.rf, ⟨fun _ _ => rI_0, fun _ _ => rL_0⟩, ⟨fun a j t ha _ => absurd ha (Nat.not_lt_zero a), by decide⟩, Nat.le_refl _, fun _ _ => rfl⟩ ⟨hl0, fun q hq => ?_, (fun v hv => by cases hv), Nat.zero_le _, Nat.zero_le _⟩
  · intro r K1 hi1 hl1 H1 locs1 ad1 pc1 lsA1 hq hW hok hret
    have hq : r = some (vI 1) := hq
    subst hq
    refine va_forget (fun q hq => hW.2.2.1.2.2 q hq) ?_
    show W p l e room_1 s m #[Value.ref b] below meth c H1 [] 600000 7302250 (lw_Z below #[Value.ref b] s) (F0 m pc1 lsA1 [.int (i32 1)])
    rw [i32_1]
    exact lw_ret hx hb hr hlk hret.1
  · cases h
  · cases h
  · cases h
  · rcases List.mem_cons.mp hq with e | e
    · rw [e]; exact Or.inr rfl
    · cases e
set_option maxHeartbeats 4000000 in
theorem lw_walk (l : Launch) (hflags : l.flags = flags0) (b : Addr) (xs : List Int32) : MetFree l x (headSpec (Jvm.Cond.code x code maxLocals ret :: tables_1) room_1) (lw_P b xs) (fun _ _ _ _ _ => True) lw_Q := by
  refine MetFree.of_bodyS (code := code) (maxLocals := maxLocals) (ret := ret) (by decide) ?_ ?_
  · intro args s m h hn
    obtain ⟨meth, c, h1, h2, h3, h4, h5, h6, -, -⟩ := Cond.code_spec hn (atoms_spec (ws := Jvm.Cond.code x code maxLocals ret :: tables_1) h _ List.mem_cons_self)
    exact ⟨meth, c, h1, h2, h3, h4, h5, h6⟩
  · intro p e s m args below meth c s₁ B hml0 hP _
    obtain ⟨rfl, hx, hbd, hgv⟩ := hP
    obtain ⟨scr, harrAt, hlist, hof, hsmall⟩ := hx
    obtain ⟨hcb, hkn, -, -⟩ := State.arrayAt?_spec harrAt
    have hown : s.vm.findClass R_law = some m.cls := findClass_of_methodNamed B.named
    have hts0 : ∀ c ∈ (Jvm.Cond.code x code maxLocals ret :: tables_1), c.before #[Value.ref b] s = true := atoms_spec (ws := Jvm.Cond.code x code maxLocals ret :: tables_1) B.pre
    have hts : ∀ w ∈ lw_tbl, w.before #[Value.ref b] s = true := k2_hts_sels lw_privs (fun w hw => hts0 w (List.mem_cons_of_mem _ hw)) lw_privs_ok
    have hml : c.maxLocals = 4 := B.maxLocals_eq (hts0 _ List.mem_cons_self)
    have X₀ : Stand p l e room_1 s m #[Value.ref b] below meth c s₁ [] 0 0 := Stand.of_body B
    have hh0 : s₁.heap = s.heap := by rw [B.state]; rfl
    have hsz : scr.slots.size = xs.length := by rw [← Array.length_toList, hlist, List.length_map]
    have hval : ∀ j : Nat, j < xs.length → scr.slots[j]? = some (.int (xs.getD j 0)) := fun j hj => by
      rw [← Array.getElem?_toList, hlist]
      simp [hj]
    have hbl : b < s.heap.size := (Array.getElem?_eq_some_iff.mp hcb).1
    have hX : va_X b xs.length (fun j => xs.getD j 0) s s.heap := ⟨scr, hcb, hof, hkn, hsz, hval⟩
    have K : W p l e room_1 s m #[Value.ref b] below meth c s₁.heap [] 0 0 (lw_Z below #[Value.ref b] s) (entryFrame m ([Value.ref b] : List Value).toArray 4) := by
      rw [hh0]
      exact whole_start l hflags hbd ⟨B.exec, B.bytes, B.returns, hml, hown, hts, hX, hbl, B.notSynchronized, hgv, (name_of_methodNamed B.named B.method).1⟩
    obtain ⟨t, a1, o, b1, b2, b3⟩ := K s₁ rfl X₀
    exact ⟨t, o, a1, b1, b2, b3⟩
theorem lw_pre_spec {args : Array Value} {s : State} (h : (Jvm.Cond.and given_1 narrow_1).before args s = true) (hr : rest_1_c.before args s = true) : ∃ (b : Addr) (xs : List Int32), lw_P b xs args s := by
  have hs := flat_of_before _ h
  have hq := flat_of_before _ hr
  have hc : (Cond.count 1).before args s = true := hs _ (by decide +kernel)
  have harr : (Cond.arrayOf (.arg 0) .int).before args s = true := hs _ (by decide +kernel)
  have hle : (Cond.le (.length (.arg 0)) (.int 2560)).before args s = true := hs _ (by decide +kernel)
  have hlen : (Cond.isInt (.length (.arg 0))).before args s = true := hq _ (by decide +kernel)
  have hall : (Cond.all (.arg 0) (.isInt (.elem (.arg 0) (.index 0)))).before args s = true := hq _ (by decide +kernel)
  obtain ⟨b, xs, hb, hx⟩ := State.ints_of_pre rfl harr hlen hall
  have hsm : xs.length < 2 ^ 31 := hx.choose_spec.2.2.2
  have hev : (Term.length (.arg 0)).eval args s none [] s = some (.int xs.length.toInt32) := hx.length_eval hb
  have hv := Cond.le_ints hev (show (Term.int 2560).eval args s none [] s = some (.int 2560) from rfl)
  have hd : xs.length.toInt32 ≤ 2560 := by
    simpa [Cond.before, Cond.holds, hv] using hle
  have hN : xs.length ≤ 2560 := (Int32.ofNat_le_ofNat hsm (by decide)).mp (show Int32.ofNat xs.length ≤ Int32.ofNat 2560 from hd)
  exact ⟨b, xs, Cond.one_arg hc (show args[0]? = some (.ref b) from hb), hx, hN, h⟩
theorem lw_comes (l : Launch) (hflags : l.flags = flags0) : Comes l x (Jvm.Cond.code x code maxLocals ret :: tables_1) room_1 (fun tb e args s => Calls_1 tb e args s ∧ rest_1 tb e args s ∧ Pre_1 tb e args s)
    (fun _ _ args s o t => lw_Q args s o t) := by
  intro p e ha hc hk s m args below hf hfit hheap happ hpre
  obtain ⟨b, xs, hP⟩ := lw_pre_spec hpre.2.2 hpre.2.1
  obtain ⟨k, o, h1, h2, h3, hQ⟩ := lw_walk l hflags b xs p e ha hc hk s m args below hf ((Spec.applies_iff_loose hf).mp happ).1 hP trivial
  exact ⟨k, o, h1, h2, h3, hQ⟩
theorem lw_frame {s t : State} {o : Outcome} {args : Array Value} (h : Framed s o t [] 600000 7302250) :
    Framed s o t (fieldLocs frame_1_writes args s ++ arrayLocs frame_1_arrays args s ++ staticLocs frame_1_statics s) 600000 7302250 := h
theorem lw_limb (L : Cond) (hL : ∀ (args : Array Value) (s t : State), L.after args s (.returned (some (.int 1))) t = true) :
    ArmFor flags0 classFile x code maxLocals ret World_1 tables_1 room_1 Calls_1 rest_1 Pre_1
      (fun tb e a s o t => postC L tb e a s o t ∧ Framed s o t (fieldLocs frame_1_writes a s ++ arrayLocs frame_1_arrays a s ++ staticLocs frame_1_statics s) 600000 7302250) := by
  intro l hflags _ _ p e ha hc hk s m args below hf hfit hheap happ hpre
  obtain ⟨k, o, h1, h2, h3, rfl, hF⟩ := lw_comes l hflags p e ha hc hk s m args below hf hfit hheap happ hpre
  exact ⟨k, _, h1, h2, h3, hL args s _, lw_frame hF⟩
theorem i_vc : Claimed_1_1 ∧ Claimed_1_2 := ⟨lw_limb limb_1_1 (fun args s t => by simp [limb_1_1, Cond.after, Cond.holds, Cond.value]), lw_limb limb_1_2 (fun args s t => Cond.after_iff.mpr (by
  first | (rw [show limb_1_2 = Cond.eq .result (.int 1) from rfl, Cond.eq_ints (x := 1) (y := 1) rfl rfl]; simp; done) | (simp [limb_1_2, Cond.value, Term.eval]; done)))⟩
