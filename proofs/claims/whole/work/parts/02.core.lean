/-! THE ABSTRACT MACHINE'S WORDS. A value: an int, a long (whole numbers), a reference (a PLACE in the world, not an address). A world: shapes and references of its cells (K), int contents (hi), long contents (hl), by place and slot. -/
abbrev AV : Type := Int ⊕ (Int ⊕ Option Nat)
abbrev vI (z : Int) : AV := .inl z
abbrev vL (z : Int) : AV := .inr (.inl z)
abbrev vR (k : Nat) : AV := .inr (.inr (some k))
def i32 (z : Int) : Int32 := Int32.ofInt z
def i64 (z : Int) : Int64 := Int64.ofInt z
def cv (ad : Nat → Nat) : AV → Value
  | .inl z => .int (i32 z)
  | .inr (.inl z) => .long (i64 z)
  | .inr (.inr none) => .null
  | .inr (.inr (some k)) => .ref (ad k)
def rI (z : Int) : Prop := -2147483648 ≤ z ∧ z < 2147483648
def rL (z : Int) : Prop := -9223372036854775808 ≤ z ∧ z < 9223372036854775808
/-- the script's place -/
abbrev SC : Nat := 1000000
def okV (N : Nat) : AV → Prop
  | .inl z => rI z
  | .inr (.inl z) => rL z
  | .inr (.inr none) => True
  | .inr (.inr (some k)) => k < N ∨ k = SC
def isL : AV → Bool
  | .inr (.inl _) => true
  | _ => false
abbrev Sh : Type := (Nat × Nat) ⊕ Nat
abbrev KK : Type := List Sh × (Nat → Nat → Option Nat)
abbrev HI : Type := Nat → Nat → Int
def tyOf (c : Nat) : Nat → FieldType := match c with
  | 0 => tyX0 | 1 => tyX1 | 2 => tyX2 | 3 => tyX3 | 4 => tyX4 | 5 => tyX5 | 6 => tyX6 | 7 => tyX7 | _ => tyX8
def Rn (c : Nat) : String := match c with
  | 0 => RX0 | 1 => RX1 | 2 => RX2 | 3 => RX3 | 4 => RX4 | 5 => RX5 | 6 => RX6 | 7 => RX7 | _ => RX8
def Tn (c : Nat) : u_T := match c with
  | 0 => TX0 | 1 => TX1 | 2 => TX2 | 3 => TX3 | 4 => TX4 | 5 => TX5 | 6 => TX6 | 7 => TX7 | _ => TX8
def nF (c : Nat) : Nat := match c with
  | 0 => 5 | 1 => 4 | 2 => 9 | 3 => 2 | 4 => 3 | 5 => 5 | 6 => 4 | 7 => 13 | _ => 29
theorem cl_at {c : Nat} (h : c < 9) : vwCl[c]? = some (Rn c, Tn c, nF c) := by
  rcases (show c = 0 ∨ c = 1 ∨ c = 2 ∨ c = 3 ∨ c = 4 ∨ c = 5 ∨ c = 6 ∨ c = 7 ∨ c = 8 by omega) with rfl | rfl | rfl | rfl | rfl | rfl | rfl | rfl | rfl <;> rfl
theorem tyOf_ok {c : Nat} (h : c < 9) : ∀ k, k < nF c → parseFieldDescriptor (Tn c k).2.2.1 = some (tyOf c k) := by
  rcases (show c = 0 ∨ c = 1 ∨ c = 2 ∨ c = 3 ∨ c = 4 ∨ c = 5 ∨ c = 6 ∨ c = 7 ∨ c = 8 by omega) with rfl | rfl | rfl | rfl | rfl | rfl | rfl | rfl | rfl
  · exact tyX0_ok
  · exact tyX1_ok
  · exact tyX2_ok
  · exact tyX3_ok
  · exact tyX4_ok
  · exact tyX5_ok
  · exact tyX6_ok
  · exact tyX7_ok
  · exact tyX8_ok
theorem nm_ok {c : Nat} (h : c < 9) : ∀ a, a < nF c → ∀ b, b < nF c → a ≠ b → (Tn c a).2.1 ≠ (Tn c b).2.1 := by
  rcases (show c = 0 ∨ c = 1 ∨ c = 2 ∨ c = 3 ∨ c = 4 ∨ c = 5 ∨ c = 6 ∨ c = 7 ∨ c = 8 by omega) with rfl | rfl | rfl | rfl | rfl | rfl | rfl | rfl | rfl
  · exact nmX0
  · exact nmX1
  · exact nmX2
  · exact nmX3
  · exact nmX4
  · exact nmX5
  · exact nmX6
  · exact nmX7
  · exact nmX8
/-- a field's kind: 0 int or boolean, 1 long, 2 reference -/
def fkO : FieldType → Nat
  | .int => 0
  | .boolean => 0
  | .long => 1
  | _ => 2
def fldV (ad : Nat → Nat) (r : Option Nat) (i l : Int) : Nat → Value
  | 0 => .int (i32 i)
  | 1 => .long (i64 l)
  | _ => va_rf (r.map ad)
def cellOf (dA : Nat → ClassId) (ad : Nat → Nat) (K : KK) (hi hl : HI) (k : Nat) : Sh → va_E
  | .inl (0, n) => .inl (dA 0, n, .inl (fun j => i32 (hi k j)))
  | .inl (1, n) => .inl (dA 1, n, .inr (.inl (fun j => i64 (hl k j))))
  | .inl (2, n) => .inl (dA 2, n, .inl (fun j => i32 (hi k j)))
  | .inl (t + 3, n) => .inl (dA (t + 3), n, .inr (.inr (.inr (.inr (fun j => (K.2 k j).map ad)))))
  | .inr c => .inr (c, (List.range (nF c)).map (fun f => fldV ad (K.2 k f) (hi k f) (hl k f) (fkO (tyOf c f))))
def conc (dA : Nat → ClassId) (ad : Nat → Nat) (K : KK) (hi hl : HI) : va_W := (List.range K.1.length).map (fun k => (ad k, cellOf dA ad K hi hl k (K.1.getD k (.inr 0))))
def wfH (hi hl : HI) : Prop := (∀ a j, rI (hi a j)) ∧ ∀ a j, rL (hl a j)
def wfK (K : KK) : Prop := (∀ a j t, a < K.1.length → K.2 a j = some t → t < K.1.length) ∧ K.1.length < SC
def tysOf (dA : Nat → ClassId) : List (ClassId × FieldType) := [(dA 0, .int), (dA 1, .long), (dA 2, .boolean), (dA 3, .object "ParrotCourt$Court"), (dA 4, .array .int), (dA 5, .array .long)]
def ktOf : Nat → FieldType
  | 0 => .int | 1 => .long | 2 => .boolean | 3 => .object "ParrotCourt$Court" | 4 => .array .int | _ => .array .long
theorem tys_at (dA : Nat → ClassId) {t : Nat} (h : t < 6) : (tysOf dA)[t]? = some (dA t, ktOf t) := by
  rcases (show t = 0 ∨ t = 1 ∨ t = 2 ∨ t = 3 ∨ t = 4 ∨ t = 5 by omega) with rfl | rfl | rfl | rfl | rfl | rfl <;> rfl
theorem conc_len {dA : Nat → ClassId} {ad : Nat → Nat} {K : KK} {hi hl : HI} : (conc dA ad K hi hl).length = K.1.length := by simp [conc]
theorem conc_at {dA : Nat → ClassId} {ad : Nat → Nat} {K : KK} {hi hl : HI} {k : Nat} {sh : Sh} (h : K.1[k]? = some sh) : (conc dA ad K hi hl)[k]? = some (ad k, cellOf dA ad K hi hl k sh) := by
  have hk : k < K.1.length := (List.getElem?_eq_some_iff.mp h).1
  unfold conc
  rw [List.getElem?_map, List.getElem?_range hk]
  simp [List.getD, h]
theorem conc_some {dA : Nat → ClassId} {ad : Nat → Nat} {K : KK} {hi hl : HI} {k : Nat} {q : Nat × va_E} (h : (conc dA ad K hi hl)[k]? = some q) : k < K.1.length ∧ q.1 = ad k ∧ q = (ad k, cellOf dA ad K hi hl k (K.1.getD k (.inr 0))) := by
  have hk : k < K.1.length := by have := (List.getElem?_eq_some_iff.mp h).1; rwa [conc_len] at this
  unfold conc at h
  rw [List.getElem?_map, List.getElem?_range hk] at h
  have := Option.some.inj h
  subst this
  exact ⟨hk, rfl, rfl⟩
/-- slot j of place a becomes v -/
def up2 {α : Type} (h : Nat → Nat → α) (a j : Nat) (v : α) : Nat → Nat → α := fun x y => if x = a ∧ y = j then v else h x y
theorem up2_s {α : Type} {h : Nat → Nat → α} {a j : Nat} {v : α} : up2 h a j v a j = v := by simp [up2]
theorem up2_a {α : Type} {h : Nat → Nat → α} {a j x : Nat} {v : α} (hx : x ≠ a) : up2 h a j v x = h x := by funext y; simp [up2, hx]
theorem up2_j {α : Type} {h : Nat → Nat → α} {a j y : Nat} {v : α} (hy : y ≠ j) : up2 h a j v a y = h a y := by simp [up2, hy]
theorem up2_n {α : Type} {h : Nat → Nat → α} {a j x y : Nat} {v : α} (hx : ¬ (x = a ∧ y = j)) : up2 h a j v x y = h x y := by simp [up2, hx]
/-- place a's row becomes f -/
def upR {α : Type} (h : Nat → Nat → α) (a : Nat) (f : Nat → α) : Nat → Nat → α := fun x => if x = a then f else h x
theorem upR_s {α : Type} {h : Nat → Nat → α} {a : Nat} {f : Nat → α} : upR h a f a = f := by simp [upR]
theorem upR_n {α : Type} {h : Nat → Nat → α} {a x : Nat} {f : Nat → α} (hx : x ≠ a) : upR h a f x = h x := by simp [upR, hx]
theorem up2_R {α : Type} {h : Nat → Nat → α} {a j : Nat} {f : Nat → α} {v : α} : up2 (upR h a f) a j v = upR h a (fun y => if y = j then v else f y) := by
  funext x y
  by_cases hx : x = a
  · subst hx
    by_cases hy : y = j <;> simp [up2, upR, hy]
  · simp [up2, upR, hx]
theorem upR_id {α : Type} (h : Nat → Nat → α) (a : Nat) : upR h a (h a) = h := by
  funext x
  by_cases hx : x = a
  · subst hx; simp [upR]
  · simp [upR, hx]
theorem upR_R {α : Type} {h : Nat → Nat → α} {a : Nat} {f g : Nat → α} : upR (upR h a f) a g = upR h a g := by
  funext x
  by_cases hx : x = a <;> simp [upR, hx]
theorem wf_up2 {hi hl : HI} {a j : Nat} {v : Int} (h : wfH hi hl) (hv : rI v) : wfH (up2 hi a j v) hl := by
  refine ⟨fun x y => ?_, h.2⟩
  unfold up2
  split
  · exact hv
  · exact h.1 x y
theorem wf_up2L {hi hl : HI} {a j : Nat} {v : Int} (h : wfH hi hl) (hv : rL v) : wfH hi (up2 hl a j v) := by
  refine ⟨h.1, fun x y => ?_⟩
  unfold up2
  split
  · exact hv
  · exact h.2 x y
theorem getD_of {α : Type} {l : List α} {k : Nat} {x d : α} (h : l[k]? = some x) : l.getD k d = x := by simp [List.getD, h]
/-- one cell changes -/
theorem conc_set {dA : Nat → ClassId} {ad : Nat → Nat} {K K' : KK} {hi hl hi' hl' : HI} {a : Nat} {sh : Sh} (hs : K.1[a]? = some sh) (hK1 : K'.1 = K.1) (hr : ∀ x, x ≠ a → K'.2 x = K.2 x) (hh : ∀ x, x ≠ a → hi' x = hi x) (hll : ∀ x, x ≠ a → hl' x = hl x) :
    (conc dA ad K hi hl).set a (ad a, cellOf dA ad K' hi' hl' a sh) = conc dA ad K' hi' hl' := by
  have ha : a < K.1.length := (List.getElem?_eq_some_iff.mp hs).1
  apply List.ext_getElem?
  intro k
  by_cases hk : k = a
  · subst hk
    rw [List.getElem?_set_self (by rw [conc_len]; exact ha), conc_at (K := K') (by rw [hK1]; exact hs)]
  · rw [List.getElem?_set_ne (Ne.symm hk)]
    by_cases hl2 : k < K.1.length
    · obtain ⟨s2, h2⟩ : ∃ s2, K.1[k]? = some s2 := ⟨_, List.getElem?_eq_getElem hl2⟩
      rw [conc_at h2, conc_at (K := K') (by rw [hK1]; exact h2)]
      congr 2
      unfold cellOf
      split <;> simp [hr k hk, hh k hk, hll k hk]
    · rw [List.getElem?_eq_none (by rw [conc_len]; omega), List.getElem?_eq_none (by rw [conc_len, hK1]; omega)]
theorem i32_toInt {z : Int} (h : rI z) : (i32 z).toInt = z := by
  unfold i32
  rw [Int32.toInt_ofInt]
  have h1 := h.1; have h2 := h.2
  have : Int32.size = 4294967296 := rfl
  rw [this, Int.bmod_def]
  split <;> omega
theorem i64_toInt {z : Int} (h : rL z) : (i64 z).toInt = z := by
  unfold i64
  rw [Int64.toInt_ofInt]
  have h1 := h.1; have h2 := h.2
  have : Int64.size = 18446744073709551616 := rfl
  rw [this, Int.bmod_def]
  split <;> omega
theorem i32_eq {x : Int32} : i32 x.toInt = x := by unfold i32; simp
theorem i64_eq {x : Int64} : i64 x.toInt = x := by unfold i64; simp
theorem rI_toInt (x : Int32) : rI x.toInt := ⟨Int32.le_toInt x, Int32.toInt_lt x⟩
theorem rL_toInt (x : Int64) : rL x.toInt := ⟨Int64.le_toInt x, Int64.toInt_lt x⟩
theorem i32_inj {a b : Int} (ha : rI a) (hb : rI b) (h : i32 a = i32 b) : a = b := by rw [← i32_toInt ha, ← i32_toInt hb, h]
def w32 (z : Int) : Int := (z + 2147483648) % 4294967296 - 2147483648
def w64 (z : Int) : Int := (z + 9223372036854775808) % 18446744073709551616 - 9223372036854775808
theorem w32_id {z : Int} (h : rI z) : w32 z = z := by unfold w32; have h1 := h.1; have h2 := h.2; omega
theorem w64_id {z : Int} (h : rL z) : w64 z = z := by unfold w64; have h1 := h.1; have h2 := h.2; omega
theorem w32_r (z : Int) : rI (w32 z) := by unfold w32 rI; omega
theorem w64_r (z : Int) : rL (w64 z) := by unfold w64 rL; omega
theorem bmod32 (z : Int) : z.bmod 4294967296 = w32 z := by rw [Int.bmod_def]; unfold w32; split <;> omega
theorem bmod64 (z : Int) : z.bmod 18446744073709551616 = w64 z := by rw [Int.bmod_def]; unfold w64; split <;> omega
theorem i32_w (z : Int) : i32 (w32 z) = i32 z := by
  have h : (i32 z).toInt = w32 z := by unfold i32; rw [Int32.toInt_ofInt]; exact bmod32 z
  rw [← h, i32_eq]
theorem i64_w (z : Int) : i64 (w64 z) = i64 z := by
  have h : (i64 z).toInt = w64 z := by unfold i64; rw [Int64.toInt_ofInt]; exact bmod64 z
  rw [← h, i64_eq]
theorem i32_add (a b : Int) : i32 a + i32 b = i32 (w32 (a + b)) := by rw [i32_w]; unfold i32; rw [← Int32.ofInt_add]
theorem i32_sub (a b : Int) : i32 a - i32 b = i32 (w32 (a - b)) := by rw [i32_w]; unfold i32; rw [← Int32.ofInt_sub]
theorem i32_mul (a b : Int) : i32 a * i32 b = i32 (w32 (a * b)) := by rw [i32_w]; unfold i32; rw [← Int32.ofInt_mul]
theorem i64_add (a b : Int) : i64 a + i64 b = i64 (w64 (a + b)) := by rw [i64_w]; unfold i64; rw [← Int64.ofInt_add]
theorem i64_mul (a b : Int) : i64 a * i64 b = i64 (w64 (a * b)) := by rw [i64_w]; unfold i64; rw [← Int64.ofInt_mul]
theorem i32_lt {a b : Int} (ha : rI a) (hb : rI b) : i32 a < i32 b ↔ a < b := by rw [Int32.lt_iff_toInt_lt, i32_toInt ha, i32_toInt hb]
theorem i32_le {a b : Int} (ha : rI a) (hb : rI b) : i32 a ≤ i32 b ↔ a ≤ b := by rw [Int32.le_iff_toInt_le, i32_toInt ha, i32_toInt hb]
theorem i32_eqI {a b : Int} (ha : rI a) (hb : rI b) : i32 a = i32 b ↔ a = b := ⟨i32_inj ha hb, fun h => by rw [h]⟩
theorem i64_lt {a b : Int} (ha : rL a) (hb : rL b) : i64 a < i64 b ↔ a < b := by rw [Int64.lt_iff_toInt_lt, i64_toInt ha, i64_toInt hb]
theorem i64_eqI {a b : Int} (ha : rL a) (hb : rL b) : i64 a = i64 b ↔ a = b := ⟨fun h => by rw [← i64_toInt ha, ← i64_toInt hb, h], fun h => by rw [h]⟩
theorem rI_0 : rI 0 := by unfold rI; omega
theorem rL_0 : rL 0 := by unfold rL; omega
theorem rI_n {n : Nat} (h : n < 2147483648) : rI n := by unfold rI; omega
theorem i32_0 : i32 0 = 0 := by decide +kernel
/-- an index in range -/
theorem i32_in {z : Int} {n len : Nat} (hz : z = n) (hn : n < len) (hr : rI z) : vp_in (i32 z) len ∧ (i32 z).toNatClampNeg = n := by
  have h1 : (i32 z).toInt = n := by rw [i32_toInt hr, hz]
  refine ⟨vp_in_iff.mpr ⟨by omega, by omega⟩, ?_⟩
  unfold Int32.toNatClampNeg
  rw [h1]
  rfl
theorem cv_ext {ad ad1 : Nat → Nat} {N : Nat} (h : ∀ k, k < N ∨ k = SC → ad1 k = ad k) {v : AV} (hv : okV N v) : cv ad1 v = cv ad v := by
  rcases v with z | z | r
  · rfl
  · rfl
  · cases r with
    | none => rfl
    | some k => simp only [cv]; rw [h k hv]
theorem okV_mono {N N1 : Nat} (h : N ≤ N1) {v : AV} (hv : okV N v) : okV N1 v := by
  rcases v with z | z | r
  · exact hv
  · exact hv
  · cases r with
    | none => trivial
    | some k => exact hv.imp (fun q => Nat.lt_of_lt_of_le q h) id
theorem cv_cat (ad : Nat → Nat) (v : AV) : (cv ad v).category = if isL v then 2 else 1 := by
  rcases v with z | z | r
  · rfl
  · rfl
  · cases r <;> rfl
