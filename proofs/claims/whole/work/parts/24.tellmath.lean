/-! bits of six birds; what comes to whom; common divisors -/
theorem ush_amt : ∀ k, k < 32 → (((nI k).toUInt32 &&& Int32.toUInt32 31).toBitVec % 32).toNat = k := by decide +kernel
theorem uN {a k : Nat} (hk : k < 32) (h : a < 2147483648) : ((i32 (a : Int)).toUInt32 >>> ((i32 (k : Int)).toUInt32 &&& Int32.toUInt32 31)).toInt32 = i32 ((a / 2 ^ k : Nat) : Int) := pk_ushrN (by omega) (nI k) k (ush_amt k hk)
def bc (n : Nat) : Nat := n % 2 + n / 2 % 2 + n / 4 % 2 + n / 8 % 2 + n / 16 % 2 + n / 32 % 2
def bcA (n : Nat) : Nat := n - (n / 2 ^ 1 &&& 1431655765)
def bcB (n : Nat) : Nat := (bcA n &&& 858993459) + (bcA n / 2 ^ 2 &&& 858993459)
def bcC (n : Nat) : Nat := (bcB n + bcB n / 2 ^ 4) &&& 252645135
def bcD (n : Nat) : Nat := bcC n + bcC n / 2 ^ 8
def bcE (n : Nat) : Nat := bcD n + bcD n / 2 ^ 16
theorem bc_all : ∀ n, n < 64 → (n / 2 ^ 1 &&& 1431655765) ≤ n ∧ bcA n < 64 ∧ (bcA n &&& 858993459) < 64 ∧ (bcA n / 2 ^ 2 &&& 858993459) < 64 ∧ bcB n < 64 ∧ bcB n + bcB n / 2 ^ 4 < 64 ∧ bcC n < 64 ∧ bcD n < 64 ∧ bcE n < 64 ∧ (bcE n &&& 63) = bc n := by decide +kernel
def nt_ (s r : Nat) : Nat := s &&& (63 ^^^ r)
theorem nt_32 : ∀ s : Nat, s < 64 → ∀ r : Nat, r < 64 → i32 (s : Int) &&& i32 (-1 - (r : Int)) = i32 ((nt_ s r : Nat) : Int) := by decide +kernel
theorem xm1 : ∀ r : Nat, r < 64 → i32 (r : Int) ^^^ i32 (-1) = i32 (-1 - (r : Int)) := by decide +kernel
theorem nt_lt : ∀ s, s < 64 → ∀ r, r < 64 → nt_ s r < 64 := by decide +kernel
theorem and64 : ∀ s, s < 64 → ∀ r, r < 64 → s &&& r < 64 := by decide +kernel
theorem or64 : ∀ s, s < 64 → ∀ r, r < 64 → s ||| r < 64 := by decide +kernel
/-- whom birds reach, behind the last i parts gone back -/
def rlF (σ : SG) (H : Nat → Bool) : Nat → Nat → Nat
  | 0 => fun b => 2 ^ b
  | i + 1 => if H (nn σ - 1 - i) then
      (if sp' σ (nn σ - 1 - i) < 6 then updF (updF (rlF σ H i) (he σ (nn σ - 1 - i)) 0) (sp' σ (nn σ - 1 - i)) (updF (rlF σ H i) (he σ (nn σ - 1 - i)) 0 (sp' σ (nn σ - 1 - i)) ||| rlF σ H i (he σ (nn σ - 1 - i)))
       else updF (rlF σ H i) (he σ (nn σ - 1 - i)) 0)
    else rlF σ H i
def rF (σ : SG) (H : Nat → Bool) (p : Nat) : Nat := if H p then rlF σ H (nn σ - 1 - p) (he σ p) else 0
def sF (σ : SG) (H : Nat → Bool) (p : Nat) : Nat := if H p then so σ (he σ p) else 0
theorem rlF_k {σ : SG} {H : Nat → Bool} {k : Nat} (h1 : 1 ≤ k) (h2 : k ≤ nn σ) : rlF σ H (nn σ - (k - 1)) = if H (k - 1) then
      (if sp' σ (k - 1) < 6 then updF (updF (rlF σ H (nn σ - k)) (he σ (k - 1)) 0) (sp' σ (k - 1)) (updF (rlF σ H (nn σ - k)) (he σ (k - 1)) 0 (sp' σ (k - 1)) ||| rlF σ H (nn σ - k) (he σ (k - 1)))
       else updF (rlF σ H (nn σ - k)) (he σ (k - 1)) 0)
    else rlF σ H (nn σ - k) := by
  rw [show nn σ - (k - 1) = (nn σ - k) + 1 by omega]
  show (if _ then _ else _) = _
  rw [show nn σ - 1 - (nn σ - k) = k - 1 by omega]
theorem rF_k {σ : SG} {H : Nat → Bool} {k : Nat} (h1 : 1 ≤ k) (h2 : k ≤ nn σ) (hH : H (k - 1) = true) : rF σ H (k - 1) = rlF σ H (nn σ - k) (he σ (k - 1)) := by
  unfold rF
  rw [if_pos hH, show nn σ - 1 - (k - 1) = nn σ - k by omega]
theorem rlF_lt {σ : SG} {H : Nat → Bool} (hs : WF σ) : ∀ i, i ≤ nn σ → ∀ b, b < 6 → rlF σ H i b < 64
  | 0, _, b, hb => by
    show 2 ^ b < 64
    have := Nat.pow_lt_pow_right (show 1 < 2 by omega) hb
    omega
  | i + 1, hi, b, hb => by
    have ih := rlF_lt (H := H) hs i (by omega)
    have hp := hs.2.2.2.1 (nn σ - 1 - i) (by omega)
    have hq : ∀ c, c < 6 → updF (rlF σ H i) (he σ (nn σ - 1 - i)) 0 c < 64 := by
      intro c hc
      by_cases e : c = he σ (nn σ - 1 - i)
      · rw [e, updF_s]; omega
      · rw [updF_n e]; exact ih c hc
    show (if _ then _ else _ : Nat → Nat) b < 64
    split
    · split
      · rename_i hsp
        by_cases e : b = sp' σ (nn σ - 1 - i)
        · rw [e, updF_s]; exact or64 _ (hq _ (by omega)) _ (ih _ (by omega))
        · rw [updF_n e]; exact hq b hb
      · exact hq b hb
    · exact ih b hb
theorem rF_lt {σ : SG} {H : Nat → Bool} (hs : WF σ) {p : Nat} (hp : p < nn σ) : rF σ H p < 64 := by
  unfold rF
  split
  · have := hs.2.2.2.1 p hp; exact rlF_lt hs _ (by omega) _ (by omega)
  · omega
theorem sF_le {σ : SG} {H : Nat → Bool} (hs : WF σ) {p : Nat} (hp : p < nn σ) : sF σ H p ≤ 4 := by
  unfold sF
  split
  · have := hs.2.2.2.1 p hp; exact hs.1 _ (by omega)
  · omega
def halfF (r ss : Nat → Nat) (set p : Nat) : Bool := anyB (fun o => decide (ss o = 2) && decide (set &&& r o = nt_ set (r p))) p
def badP (r ss : Nat → Nat) (set p : Nat) : Bool := (decide (1 ≤ ss p ∧ ss p ≤ 3) && decide (nt_ set (r p) = 0)) || (decide (ss p = 2) && halfF r ss set p)
def tellsF (n : Nat) (r ss : Nat → Nat) (hr birds : Nat) : Bool := decide (birds &&& hr ≠ 0) && !(anyB (badP r ss (birds &&& hr)) n)
/-- the rows of Telling hold r, ss -/
def TR (hi : HI) (n : Nat) (r ss : Nat → Nat) (hr : Nat) : Prop := hi 73 3 = (n : Nat) ∧ hi 73 4 = (hr : Nat) ∧ n ≤ 16 ∧ hr < 64 ∧ ∀ p, p < n → hi 74 p = (r p : Nat) ∧ hi 75 p = (ss p : Nat) ∧ r p < 64 ∧ ss p ≤ 4
theorem b2i_and (a b : Bool) : b2i (a && b) = if b2i a = 0 then 0 else b2i b := by cases a <;> cases b <;> rfl
def fbF (T : Nat → Bool) : Nat → Int
  | 0 => -6
  | k + 1 => if (fbF T k = -6 ∨ bc (k + 1) < bc (fbF T k).toNat) ∧ T (k + 1) = true then ((k + 1 : Nat) : Int) else fbF T k
theorem fbF_s (T : Nat → Bool) (k : Nat) : fbF T (k + 1) = if (fbF T k = -6 ∨ bc (k + 1) < bc (fbF T k).toNat) ∧ T (k + 1) = true then ((k + 1 : Nat) : Int) else fbF T k := rfl
theorem fbF_b (T : Nat → Bool) : ∀ k, fbF T k = -6 ∨ (1 ≤ fbF T k ∧ fbF T k ≤ k)
  | 0 => Or.inl rfl
  | k + 1 => by
    have := fbF_b T k
    rw [fbF_s]; split <;> omega
theorem bc_le (n : Nat) : bc n ≤ 6 := by unfold bc; omega
theorem gcd_step {x y : Nat} : Nat.gcd y (x % y) = Nat.gcd x y := by rw [Nat.gcd_comm x y, Nat.gcd_rec y x, Nat.gcd_comm]
theorem half_step {x y : Nat} (h : y < x) (hy : 0 < y) : y * (x % y) * 2 ≤ x * y := by
  have h1 := Nat.mod_lt x hy
  have h2 := Nat.div_add_mod x y
  have h3 : 1 ≤ x / y := Nat.div_pos (by omega) hy
  have h4 : y * 1 ≤ y * (x / y) := Nat.mul_le_mul_left y h3
  have h5 : x % y * 2 ≤ x := by omega
  calc y * (x % y) * 2 = y * (x % y * 2) := Nat.mul_assoc _ _ _
    _ ≤ y * x := Nat.mul_le_mul_left y h5
    _ = x * y := Nat.mul_comm _ _
theorem gcd_inv {a b k x y : Nat} (hy0 : 0 < y) (h : (k = 0 ∧ x = a ∧ y = b) ∨ (1 ≤ k ∧ y < x ∧ x * y * 2 ^ (k - 1) ≤ a * b)) : (k + 1 = 0 ∧ y = a ∧ x % y = b) ∨ (1 ≤ k + 1 ∧ x % y < y ∧ y * (x % y) * 2 ^ (k + 1 - 1) ≤ a * b) := by
  right
  refine ⟨by omega, Nat.mod_lt x hy0, ?_⟩
  rcases h with ⟨h0, h1, h2⟩ | ⟨h0, h1, h2⟩
  · subst h0 h1 h2
    show y * (x % y) * 1 ≤ x * y
    rw [Nat.mul_one, Nat.mul_comm x y]
    exact Nat.mul_le_mul_left y (Nat.mod_le x y)
  · have hs := half_step h1 hy0
    have e : 2 ^ (k + 1 - 1) = 2 * 2 ^ (k - 1) := by rw [show k + 1 - 1 = (k - 1) + 1 by omega, Nat.pow_succ, Nat.mul_comm]
    rw [e, ← Nat.mul_assoc]
    exact Nat.le_trans (Nat.mul_le_mul_right _ hs) h2
theorem gcd_end {a b k x y : Nat} (ha : a < 9223372036854775808) (hb : b < 9223372036854775808) (hk : 200 ≤ k) (h : (k = 0 ∧ x = a ∧ y = b) ∨ (1 ≤ k ∧ y < x ∧ x * y * 2 ^ (k - 1) ≤ a * b)) : y = 0 := by
  rcases h with h | ⟨h0, h1, h2⟩
  · omega
  · rcases Nat.eq_zero_or_pos y with e | e
    · exact e
    · exfalso
      have hab : a * b < 2 ^ 63 * 2 ^ 63 := Nat.mul_lt_mul'' (by omega) (by omega)
      have hxy : 1 ≤ x * y := Nat.mul_pos (by omega) e
      have hp : 2 ^ 199 ≤ 2 ^ (k - 1) := Nat.pow_le_pow_right (by omega) (by omega)
      have := Nat.mul_le_mul hxy hp
      omega
