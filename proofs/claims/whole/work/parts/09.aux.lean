/-! the rules that the program lays: what is read has a name x, what is written gives a world hi' -/
def updF {α : Type} (f : Nat → α) (n : Nat) (x : α) : Nat → α := fun y => if y = n then x else f y
theorem updF_s {α : Type} {f : Nat → α} {n : Nat} {x : α} : updF f n x n = x := by simp [updF]
theorem updF_n {α : Type} {f : Nat → α} {n m : Nat} {x : α} (h : m ≠ n) : updF f n x m = f m := by simp [updF, h]
theorem u0 {α : Type} {h : Nat → Nat → α} {a n : Nat} {x : α} : up2 h a n x = upR h a (updF (h a) n x) := by
  funext p q
  by_cases hp : p = a
  · subst hp
    by_cases hq : q = n <;> simp [up2, upR, updF, hq]
  · simp [up2, upR, hp]
theorem u1 {α : Type} {h : Nat → Nat → α} {a n : Nat} {f : Nat → α} {x : α} : up2 (upR h a f) a n x = upR h a (updF f n x) := up2_R
theorem us {α : Type} {h h' : Nat → Nat → α} {a b n : Nat} {g : Nat → α} {x : α} (hab : a ≠ b) (e : up2 h a n x = h') : up2 (upR h b g) a n x = upR h' b g := by
  subst e
  funext p q
  by_cases hp : p = b
  · subst hp
    simp [up2, upR, Ne.symm hab]
  · by_cases hq : p = a ∧ q = n <;> simp [up2, upR, hp, hq, hab]
theorem r0 {α : Type} {h : Nat → Nat → α} {a : Nat} {f : Nat → α} : upR h a f = upR h a f := rfl
theorem r1 {α : Type} {h : Nat → Nat → α} {a : Nat} {f g : Nat → α} : upR (upR h a g) a f = upR h a f := upR_R
theorem rs {α : Type} {h h' : Nat → Nat → α} {a b : Nat} {f g : Nat → α} (hab : a ≠ b) (e : upR h a f = h') : upR (upR h b g) a f = upR h' b g := by
  subst e
  funext p
  by_cases hp : p = b
  · subst hp; simp [upR, Ne.symm hab]
  · by_cases hq : p = a <;> simp [upR, hp, hq, hab]
theorem upR_c {α : Type} {h h' : Nat → Nat → α} {a : Nat} {f : Nat → α} (e : h = h') : upR h a f = upR h' a f := by rw [e]
theorem w32_of {z r : Int} (h : z = r) (h1 : -2147483648 ≤ r) (h2 : r < 2147483648) : w32 z = r := by rw [h]; exact w32_id ⟨h1, h2⟩
theorem w64_of {z r : Int} (h : z = r) (h1 : -9223372036854775808 ≤ r) (h2 : r < 9223372036854775808) : w64 z = r := by rw [h]; exact w64_id ⟨h1, h2⟩
section VX
variable {e e1 : EV} {sc : ST} {K : KK} {pc : Nat} {ls ls' : List (Nat × AV)} {st : List AV} {hi hl : HI} {cs ss : Nat} {Q : QT}
theorem V.hieq {hi' : HI} (h : hi = hi') (k : V e sc K pc ls st hi' hl cs ss Q) : V e sc K pc ls st hi hl cs ss Q := h ▸ k
theorem V.hleq {hl' : HI} (h : hl = hl') (k : V e sc K pc ls st hi hl' cs ss Q) : V e sc K pc ls st hi hl cs ss Q := h ▸ k
theorem V.top {v v' : AV} (h : v = v') (k : V e sc K pc ls (v' :: st) hi hl cs ss Q) : V e sc K pc ls (v :: st) hi hl cs ss Q := h ▸ k
theorem V.ia {o len : Nat} {z : Int} (n : Nat) (x : Int) (hd : decode e.2.1 pc = .ok (.iaload, 1)) (hsh : K.1[o]? = some (.inl (0, len))) (hz : z = n) (hn : n < len) (hx : hi o n = x) (k : V e sc K (pc + 1) ls (vI x :: st) hi hl cs ss Q) : V e sc K pc ls (vI z :: vR o :: st) hi hl cs ss Q := by
  subst hx; exact V.iald n hd hsh hz hn k
theorem V.za {o len : Nat} {z : Int} (n : Nat) (x : Int) (hd : decode e.2.1 pc = .ok (.baload, 1)) (hsh : K.1[o]? = some (.inl (2, len))) (hz : z = n) (hn : n < len) (hx : hi o n = x) (k : V e sc K (pc + 1) ls (vI x :: st) hi hl cs ss Q) : V e sc K pc ls (vI z :: vR o :: st) hi hl cs ss Q := by
  subst hx; exact V.zald n hd hsh hz hn k
theorem V.la {o len : Nat} {z : Int} (n : Nat) (x : Int) (hd : decode e.2.1 pc = .ok (.laload, 1)) (hsh : K.1[o]? = some (.inl (1, len))) (hz : z = n) (hn : n < len) (hx : hl o n = x) (k : V e sc K (pc + 1) ls (vL x :: st) hi hl cs ss Q) : V e sc K pc ls (vI z :: vR o :: st) hi hl cs ss Q := by
  subst hx; exact V.lald n hd hsh hz hn k
theorem V.gi {o idx : Nat} (c f : Nat) (x : Int) (hf : FL e.1.cls idx c f) (hd : decode e.2.1 pc = .ok (.getfield idx, 3)) (hsh : K.1[o]? = some (.inr c)) (hc : c < 9) (hfn : f < nF c) (hk : fkO (tyOf c f) = 0) (hx : hi o f = x) (k : V e sc K (pc + 3) ls (vI x :: st) hi hl cs ss Q) : V e sc K pc ls (vR o :: st) hi hl cs ss Q := by
  subst hx; exact V.getG (v := vI (hi o f)) inU hf hd hsh hc hfn (fun _ => by rw [hk]; rfl) (fun h _ => h.1 o f) k
theorem V.gj {o idx : Nat} (c f : Nat) (x : Int) (hf : FL e.1.cls idx c f) (hd : decode e.2.1 pc = .ok (.getfield idx, 3)) (hsh : K.1[o]? = some (.inr c)) (hc : c < 9) (hfn : f < nF c) (hk : fkO (tyOf c f) = 1) (hx : hl o f = x) (k : V e sc K (pc + 3) ls (vL x :: st) hi hl cs ss Q) : V e sc K pc ls (vR o :: st) hi hl cs ss Q := by
  subst hx; exact V.getG (v := vL (hl o f)) inU hf hd hsh hc hfn (fun _ => by rw [hk]; rfl) (fun h _ => h.2 o f) k
theorem V.gr {o idx : Nat} (c f o' : Nat) (hf : FL e.1.cls idx c f) (hd : decode e.2.1 pc = .ok (.getfield idx, 3)) (hsh : K.1[o]? = some (.inr c)) (hc : c < 9) (hfn : f < nF c) (hk : fkO (tyOf c f) = 2) (hr : K.2 o f = some o') (k : V e sc K (pc + 3) ls (vR o' :: st) hi hl cs ss Q) : V e sc K pc ls (vR o :: st) hi hl cs ss Q :=
  V.getG (v := vR o') inU hf hd hsh hc hfn (fun _ => by rw [hk, hr]; rfl) (fun _ h => Or.inl (h.1 o f o' (List.getElem?_eq_some_iff.mp hsh).1 hr)) k
theorem V.is {o len : Nat} {z x : Int} {hi' : HI} (n : Nat) (hd : decode e.2.1 pc = .ok (.iastore, 1)) (hsh : K.1[o]? = some (.inl (0, len))) (hz : z = n) (hn : n < len) (he : up2 hi o n x = hi') (k : V e sc K (pc + 1) ls st hi' hl cs ss Q) : V e sc K pc ls (vI x :: vI z :: vR o :: st) hi hl cs ss Q := by
  subst he; exact V.iast n hd hsh hz hn k
theorem V.zs {o len : Nat} {z x : Int} {hi' : HI} (n : Nat) (hd : decode e.2.1 pc = .ok (.bastore, 1)) (hsh : K.1[o]? = some (.inl (2, len))) (hz : z = n) (hn : n < len) (h01 : x = 0 ∨ x = 1) (he : up2 hi o n x = hi') (k : V e sc K (pc + 1) ls st hi' hl cs ss Q) : V e sc K pc ls (vI x :: vI z :: vR o :: st) hi hl cs ss Q := by
  subst he; exact V.zast n hd hsh hz hn h01 k
theorem V.js {o len : Nat} {z x : Int} {hl' : HI} (n : Nat) (hd : decode e.2.1 pc = .ok (.lastore, 1)) (hsh : K.1[o]? = some (.inl (1, len))) (hz : z = n) (hn : n < len) (he : up2 hl o n x = hl') (k : V e sc K (pc + 1) ls st hi hl' cs ss Q) : V e sc K pc ls (vL x :: vI z :: vR o :: st) hi hl cs ss Q := by
  subst he; exact V.last n hd hsh hz hn k
theorem V.pi {o idx : Nat} {x : Int} {hi' : HI} (c f : Nat) (hf : FL e.1.cls idx c f) (hd : decode e.2.1 pc = .ok (.putfield idx, 3)) (hsh : K.1[o]? = some (.inr c)) (hc : c < 9) (hfn : f < nF c) (hfin : (Tn c f).2.2.2 = false) (hty : tyOf c f = .int) (he : up2 hi o f x = hi') (k : V e sc K (pc + 3) ls st hi' hl cs ss Q) : V e sc K pc ls (vI x :: vR o :: st) hi hl cs ss Q := by
  subst he
  exact V.putG (v := vI x) (hi' := up2 hi o f x) (hl' := hl) inU hf hd hsh hc hfn hfin (fun _ => by rw [hty]; rfl) (fun _ => by rw [hty]; rfl) (fun _ => by rw [hty, up2_s]; rfl) (fun j hj => up2_j hj) (fun _ _ => rfl) (fun y hy => up2_a hy) (fun _ _ => rfl) (fun h h2 => wf_up2 h h2) k
theorem V.pz {o idx : Nat} {x : Int} {hi' : HI} (c f : Nat) (hf : FL e.1.cls idx c f) (hd : decode e.2.1 pc = .ok (.putfield idx, 3)) (hsh : K.1[o]? = some (.inr c)) (hc : c < 9) (hfn : f < nF c) (hfin : (Tn c f).2.2.2 = false) (hty : tyOf c f = .boolean) (h01 : x = 0 ∨ x = 1) (he : up2 hi o f x = hi') (k : V e sc K (pc + 3) ls st hi' hl cs ss Q) : V e sc K pc ls (vI x :: vR o :: st) hi hl cs ss Q := by
  subst he
  exact V.putG (v := vI x) (hi' := up2 hi o f x) (hl' := hl) inU hf hd hsh hc hfn hfin (fun _ => by rw [hty]; rcases h01 with rfl | rfl; exact (by decide +kernel : narrow .boolean (.int (i32 0)) = .int (i32 0)); exact (by decide +kernel : narrow .boolean (.int (i32 1)) = .int (i32 1))) (fun _ => by rw [hty]; rcases h01 with rfl | rfl; exact (by decide +kernel : fits .boolean (.int (i32 0)) = true); exact (by decide +kernel : fits .boolean (.int (i32 1)) = true)) (fun _ => by rw [hty, up2_s]; rfl) (fun j hj => up2_j hj) (fun _ _ => rfl) (fun y hy => up2_a hy) (fun _ _ => rfl) (fun h h2 => wf_up2 h h2) k
theorem V.pj {o idx : Nat} {x : Int} {hl' : HI} (c f : Nat) (hf : FL e.1.cls idx c f) (hd : decode e.2.1 pc = .ok (.putfield idx, 3)) (hsh : K.1[o]? = some (.inr c)) (hc : c < 9) (hfn : f < nF c) (hfin : (Tn c f).2.2.2 = false) (hty : tyOf c f = .long) (he : up2 hl o f x = hl') (k : V e sc K (pc + 3) ls st hi hl' cs ss Q) : V e sc K pc ls (vL x :: vR o :: st) hi hl cs ss Q := by
  subst he
  exact V.putG (v := vL x) (hi' := hi) (hl' := up2 hl o f x) inU hf hd hsh hc hfn hfin (fun _ => by rw [hty]; rfl) (fun _ => by rw [hty]; rfl) (fun _ => by rw [hty, up2_s]; rfl) (fun _ _ => rfl) (fun j hj => up2_j hj) (fun _ _ => rfl) (fun y hy => up2_a hy) (fun h h2 => wf_up2L h h2) k
end VX
/-! the machine's operations on numbers that aren't negative -/
theorem i32_n (n : Nat) : i32 (n : Int) = nI n := rfl
theorem i64_n (n : Nat) : i64 (n : Int) = lN n := rfl
theorem dN {a b : Nat} (ha : a < 2147483648) (h0 : 0 < b) (hb : b < 2147483648) : i32 (a : Int) / i32 (b : Int) = i32 ((a / b : Nat) : Int) := pk_div ha h0 hb
theorem mN {a b : Nat} (ha : a < 2147483648) (h0 : 0 < b) (hb : b < 2147483648) : i32 (a : Int) - i32 (a : Int) / i32 (b : Int) * i32 (b : Int) = i32 ((a % b : Nat) : Int) := pk_rem ha h0 hb
theorem dNL {a b : Nat} (ha : a < 9223372036854775808) (h0 : 0 < b) (hb : b < 9223372036854775808) : i64 (a : Int) / i64 (b : Int) = i64 ((a / b : Nat) : Int) := pk_lDiv ha h0 hb
theorem mNL {a b : Nat} (ha : a < 9223372036854775808) (h0 : 0 < b) (hb : b < 9223372036854775808) : i64 (a : Int) - i64 (a : Int) / i64 (b : Int) * i64 (b : Int) = i64 ((a % b : Nat) : Int) := pk_lRem ha h0 hb
theorem i32_bv (n : Nat) : (i32 (n : Int)).toBitVec = BitVec.ofNat 32 n := by
  rw [i32_n]; rfl
theorem i64_bv (n : Nat) : (i64 (n : Int)).toBitVec = BitVec.ofNat 64 n := by
  rw [i64_n]; rfl
theorem aN (a b : Nat) : i32 (a : Int) &&& i32 (b : Int) = i32 ((a &&& b : Nat) : Int) := by
  rw [← Int32.toBitVec_inj, Int32.toBitVec_and, i32_bv, i32_bv, i32_bv]; exact BitVec.ofNat_and.symm
theorem oN (a b : Nat) : i32 (a : Int) ||| i32 (b : Int) = i32 ((a ||| b : Nat) : Int) := by
  rw [← Int32.toBitVec_inj, Int32.toBitVec_or, i32_bv, i32_bv, i32_bv]; exact BitVec.ofNat_or.symm
theorem xN (a b : Nat) : i32 (a : Int) ^^^ i32 (b : Int) = i32 ((a ^^^ b : Nat) : Int) := by
  rw [← Int32.toBitVec_inj, Int32.toBitVec_xor, i32_bv, i32_bv, i32_bv]; exact BitVec.ofNat_xor.symm
theorem aNL (a b : Nat) : i64 (a : Int) &&& i64 (b : Int) = i64 ((a &&& b : Nat) : Int) := by
  rw [← Int64.toBitVec_inj, Int64.toBitVec_and, i64_bv, i64_bv, i64_bv]; exact BitVec.ofNat_and.symm
theorem oNL (a b : Nat) : i64 (a : Int) ||| i64 (b : Int) = i64 ((a ||| b : Nat) : Int) := by
  rw [← Int64.toBitVec_inj, Int64.toBitVec_or, i64_bv, i64_bv, i64_bv]; exact BitVec.ofNat_or.symm
theorem sh_amt : ∀ k, k < 32 → ((nI k &&& 31).toBitVec.smod 32).toNat = k := by decide +kernel
theorem sN {a k : Nat} (hk : k < 32) (h : a * 2 ^ k < 2147483648) : i32 (a : Int) <<< (i32 (k : Int) &&& 31) = i32 ((a * 2 ^ k : Nat) : Int) := pk_shlN (nI k &&& 31) k (sh_amt k hk) (by omega)
theorem hN {a k : Nat} (hk : k < 32) (h : a < 2147483648) : i32 (a : Int) >>> (i32 (k : Int) &&& 31) = i32 ((a / 2 ^ k : Nat) : Int) := pk_shrN h (nI k &&& 31) k (sh_amt k hk)
section VQ
variable {e e1 : EV} {sc : ST} {K : KK} {pc : Nat} {ls : List (Nat × AV)} {st : List AV} {hi hl : HI} {cs ss : Nat} {Q : QT}
theorem V.qI {x : Int} (h1 : e1.2.2.2.2.cells = 0) (h2 : e1.2.2.2.2.slots = 0) (k : V e sc K (pc + 3) ls (vI x :: st) hi hl cs ss Q) : QN e e1 sc pc ls st cs ss Q (some (vI x)) K hi hl := by
  show V e sc K (pc + 3) ls (vI x :: st) hi hl (cs + e1.2.2.2.2.cells) (ss + e1.2.2.2.2.slots) Q
  rw [h1, h2]; exact k
theorem V.qJ {x : Int} (h1 : e1.2.2.2.2.cells = 0) (h2 : e1.2.2.2.2.slots = 0) (k : V e sc K (pc + 3) ls (vL x :: st) hi hl cs ss Q) : QN e e1 sc pc ls st cs ss Q (some (vL x)) K hi hl := by
  show V e sc K (pc + 3) ls (vL x :: st) hi hl (cs + e1.2.2.2.2.cells) (ss + e1.2.2.2.2.slots) Q
  rw [h1, h2]; exact k
theorem V.qV (h1 : e1.2.2.2.2.cells = 0) (h2 : e1.2.2.2.2.slots = 0) (k : V e sc K (pc + 3) ls st hi hl cs ss Q) : QN e e1 sc pc ls st cs ss Q none K hi hl := by
  show V e sc K (pc + 3) ls st hi hl (cs + e1.2.2.2.2.cells) (ss + e1.2.2.2.2.slots) Q
  rw [h1, h2]; exact k
end VQ
