/-! six sayings in one number; longs shifted (wb_: the kit's starting texts) -/
theorem wb_tb (n : Nat) : (lN n).toBitVec = BitVec.ofNat 64 n := rfl
theorem wb_inj {a b : Int64} (h : a.toBitVec = b.toBitVec) : a = b := Int64.toBitVec_inj.mp h
theorem wb_c : ∀ k, k < 64 → ((nI k).toInt64 &&& 63) = lN k := by decide +kernel
theorem wb_sm : ∀ k, k < 64 → (BitVec.ofNat 64 k).smod 64 = BitVec.ofNat 64 k := by decide +kernel
theorem wb_shl (n : Nat) {k : Nat} (hk : k < 64) : lN n <<< ((nI k).toInt64 &&& 63) = lN (n * 2 ^ k) := by
  rw [wb_c k hk]
  apply wb_inj
  rw [Int64.toBitVec_shiftLeft, wb_tb, wb_tb, wb_tb, wb_sm k hk]
  apply BitVec.eq_of_toNat_eq
  rw [BitVec.shiftLeft_eq', BitVec.toNat_shiftLeft, BitVec.toNat_ofNat, BitVec.toNat_ofNat, BitVec.toNat_ofNat, Nat.mod_eq_of_lt (show k < 2 ^ 64 by omega), Nat.shiftLeft_eq, Nat.mul_mod, Nat.mod_mod, ← Nat.mul_mod]
theorem shl9 (n : Nat) : i64 (n : Int) <<< ((i32 9).toInt64 &&& 63) = i64 ((n * 512 : Nat) : Int) := wb_shl n (k := 9) (by decide)
def encK (d : Nat → Nat) : Nat → Nat
  | 0 => 0
  | b + 1 => encK d b * 512 + d b
theorem encK_s (d : Nat → Nat) (b : Nat) : encK d (b + 1) = encK d b * 512 + d b := rfl
theorem encK_lt {d : Nat → Nat} : ∀ m, (∀ b, b < m → d b < 512) → encK d m < 512 ^ m
  | 0, _ => by show 0 < 1; omega
  | m + 1, h => by
    have ih := encK_lt m (fun b hb => h b (by omega))
    have := h m (by omega)
    rw [encK_s, Nat.pow_succ]; omega
theorem encK_54 {d : Nat → Nat} {m : Nat} (hm : m ≤ 6) (h : ∀ b, b < m → d b < 512) : encK d m < 18014398509481984 := by
  have h1 := encK_lt m h
  have h2 := Nat.pow_le_pow_right (show 0 < 512 by omega) hm
  have h3 : 512 ^ 6 = 18014398509481984 := by decide
  omega
theorem encK_45 {d : Nat → Nat} {m : Nat} (hm : m ≤ 5) (h : ∀ b, b < m → d b < 512) : encK d m < 35184372088832 := by
  have h1 := encK_lt m h
  have h2 := Nat.pow_le_pow_right (show 0 < 512 by omega) hm
  have h3 : 512 ^ 5 = 35184372088832 := by decide
  omega
theorem encK_congr {d e : Nat → Nat} : ∀ m, (∀ b, b < m → d b = e b) → encK d m = encK e m
  | 0, _ => rfl
  | m + 1, h => by rw [encK_s, encK_s, encK_congr m (fun b hb => h b (by omega)), h m (by omega)]
theorem encK_inj {d e : Nat → Nat} : ∀ m, (∀ b, b < m → d b < 512 ∧ e b < 512) → encK d m = encK e m → ∀ b, b < m → d b = e b
  | 0, _, _, b, hb => absurd hb (Nat.not_lt_zero b)
  | m + 1, h, he, b, hb => by
    rw [encK_s, encK_s] at he
    have := h m (by omega)
    by_cases q : b = m
    · subst q; omega
    · exact encK_inj m (fun c hc => h c (by omega)) (by omega) b (by omega)
theorem and512 {a b x y : Nat} (hx : x < 512) (hy : y < 512) : (a * 512 + x) &&& (b * 512 + y) = (a &&& b) * 512 + (x &&& y) := by
  have h1 : ((a * 512 + x) &&& (b * 512 + y)) / 2 ^ 9 = (a * 512 + x) / 2 ^ 9 &&& (b * 512 + y) / 2 ^ 9 := Nat.and_div_two_pow
  have h2 : ((a * 512 + x) &&& (b * 512 + y)) % 2 ^ 9 = ((a * 512 + x) % 2 ^ 9) &&& ((b * 512 + y) % 2 ^ 9) := Nat.and_mod_two_pow
  have e9 : 2 ^ 9 = 512 := rfl
  rw [e9] at h1 h2
  rw [show (a * 512 + x) / 512 = a by omega, show (b * 512 + y) / 512 = b by omega] at h1
  rw [show (a * 512 + x) % 512 = x by omega, show (b * 512 + y) % 512 = y by omega] at h2
  omega
theorem encK_and {d e : Nat → Nat} : ∀ m, (∀ b, b < m → d b < 512 ∧ e b < 512) → encK d m &&& encK e m = encK (fun b => d b &&& e b) m
  | 0, _ => Nat.zero_and 0
  | m + 1, h => by
    have := h m (by omega)
    rw [encK_s, encK_s, encK_s, and512 this.1 this.2, encK_and m (fun b hb => h b (by omega))]
theorem or512 {a x : Nat} (hx : x < 512) : (a * 512) ||| x = a * 512 + x := by
  have := Nat.two_pow_add_eq_or_of_lt (i := 9) (b := x) (show x < 2 ^ 9 by omega) a
  have e9 : 2 ^ 9 = 512 := rfl
  rw [e9, Nat.mul_comm 512 a] at this
  exact this.symm
def dgF : Option Nat → Nat
  | none => 511
  | some v => v
theorem dg_lt {o : Option Nat} (h : ∀ v, o = some v → v < 364) : dgF o < 512 := by
  cases o with
  | none => show 511 < 512; omega
  | some v => have := h v rfl; show v < 512; omega
theorem dg_inj {o p : Option Nat} (h : ∀ v, o = some v → v < 364) (h2 : ∀ v, p = some v → v < 364) (e : dgF o = dgF p) : o = p := by
  cases o with
  | none => cases p with
    | none => rfl
    | some v => have := h2 v rfl; have e : 511 = v := e; omega
  | some w => cases p with
    | none => have := h w rfl; have e : w = 511 := e; omega
    | some v => have e : w = v := e; rw [e]
def rkF (k : Nat → Option Nat) : Nat := encK (fun b => dgF (k b)) 6
def mdF (birds b : Nat) : Nat := if birds.testBit b = true then 511 else 0
def mkF (birds : Nat) : Nat := encK (mdF birds) 6
theorem md_lt (birds b : Nat) : mdF birds b < 512 := by unfold mdF; split <;> omega
theorem rk_congr {k k' : Nat → Option Nat} (h : ∀ c, c < 6 → k c = k' c) : rkF k = rkF k' := encK_congr 6 (fun b hb => by rw [h b hb])
theorem rk_lt {k : Nat → Option Nat} (h : ∀ c, c < 6 → ∀ v, k c = some v → v < 364) : rkF k < 18014398509481984 := encK_54 (Nat.le_refl 6) (fun b hb => dg_lt (h b hb))
theorem mk_lt (birds : Nat) : mkF birds < 18014398509481984 := encK_54 (Nat.le_refl 6) (fun b _ => md_lt birds b)
theorem and511 {x : Nat} (hx : x < 512) : x &&& 511 = x := by
  have := Nat.and_two_pow_sub_one_eq_mod x 9
  have e9 : 2 ^ 9 = 512 := rfl
  rw [e9] at this
  rw [this]; omega
theorem mask_eq {k k' : Nat → Option Nat} {birds : Nat} (h : ∀ c, c < 6 → ∀ v, k c = some v → v < 364) (h' : ∀ c, c < 6 → ∀ v, k' c = some v → v < 364) : rkF k &&& mkF birds = rkF k' &&& mkF birds ↔ ∀ c, c < 6 → birds.testBit c = true → k c = k' c := by
  have d1 : ∀ b, b < 6 → dgF (k b) < 512 := fun b hb => dg_lt (h b hb)
  have d2 : ∀ b, b < 6 → dgF (k' b) < 512 := fun b hb => dg_lt (h' b hb)
  have e1 : rkF k &&& mkF birds = encK (fun b => dgF (k b) &&& mdF birds b) 6 := encK_and 6 (fun b hb => ⟨d1 b hb, md_lt birds b⟩)
  have e2 : rkF k' &&& mkF birds = encK (fun b => dgF (k' b) &&& mdF birds b) 6 := encK_and 6 (fun b hb => ⟨d2 b hb, md_lt birds b⟩)
  rw [e1, e2]
  have lt : ∀ x y : Nat, y < 512 → x &&& y < 512 := fun x y hy => Nat.lt_of_le_of_lt Nat.and_le_right hy
  constructor
  · intro e c hc hb
    have := encK_inj 6 (fun b hb => ⟨lt _ _ (md_lt birds b), lt _ _ (md_lt birds b)⟩) e c hc
    have : dgF (k c) &&& mdF birds c = dgF (k' c) &&& mdF birds c := this
    unfold mdF at this
    rw [if_pos hb, and511 (d1 c hc), and511 (d2 c hc)] at this
    exact dg_inj (h c hc) (h' c hc) this
  · intro e
    refine encK_congr 6 (fun b hb => ?_)
    unfold mdF
    by_cases q : birds.testBit b = true
    · rw [e b hb q]
    · rw [if_neg q, Nat.and_zero, Nat.and_zero]
/-- the place where a number's slot is looked for first -/
def hzF (x : Nat) : Int := ((i64 (w64 ((x : Int) * 2654435761)) >>> ((i32 20).toInt64 &&& 63)).toInt).tmod 16384
def hNF (x : Nat) : Nat := (if hzF x < 0 then hzF x + 16384 else hzF x).toNat
theorem hz_b (x : Nat) : -16384 < hzF x ∧ hzF x < 16384 := ⟨Int.lt_tmod_of_pos _ (by omega), Int.tmod_lt_of_pos _ (by omega)⟩
theorem hN_b (x : Nat) : hNF x < 16384 ∧ (hzF x < 0 → hzF x + 16384 = ((hNF x : Nat) : Int)) ∧ (¬ hzF x < 0 → hzF x = ((hNF x : Nat) : Int)) := by
  have := hz_b x
  unfold hNF
  refine ⟨?_, fun h => ?_, fun h => ?_⟩
  · split <;> omega
  · rw [if_pos h]; omega
  · rw [if_neg h]; omega
theorem rem_z {a : Int} (h : rL a) : i64 a - i64 a / i64 16384 * i64 16384 = i64 (a.tmod 16384) := by
  have hd : i64 (a.tdiv 16384) = i64 a / i64 16384 := Int64.ofInt_tdiv (by have := h.1; have e : Int64.minValue.toInt = -9223372036854775808 := rfl; omega) (by have := h.2; have e : Int64.maxValue.toInt = 9223372036854775807 := rfl; omega) (by decide) (by decide)
  rw [← hd]
  have e : a.tmod 16384 = a - a.tdiv 16384 * 16384 := by rw [Int.tmod_def, Int.mul_comm]
  rw [e]
  unfold i64
  rw [Int64.ofInt_sub, Int64.ofInt_mul]
theorem w64_53 (x : Int) : rL ((i64 x).toInt) := rL_toInt _
