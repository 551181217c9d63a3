/-! sayings as numbers: 0 to 363, by length, then letters -/
def p3 : Nat → Nat
  | 0 => 1
  | k + 1 => 3 * p3 k
def f3 : Nat → Nat
  | 0 => 0
  | k + 1 => f3 k + p3 k
theorem p3_s (k : Nat) : p3 (k + 1) = 3 * p3 k := rfl
theorem f3_s (k : Nat) : f3 (k + 1) = f3 k + p3 k := rfl
theorem f3_p3 : ∀ n, 2 * f3 n + 1 = p3 n
  | 0 => rfl
  | n + 1 => by have := f3_p3 n; rw [p3_s, f3_s]; omega
theorem p3_pos : ∀ n, 1 ≤ p3 n
  | 0 => Nat.le_refl 1
  | n + 1 => by have := p3_pos n; rw [p3_s]; omega
theorem p3_mono {a b : Nat} (h : a ≤ b) : p3 a ≤ p3 b := by
  induction b with
  | zero => rw [Nat.le_zero.mp h]; exact Nat.le_refl _
  | succ b ih =>
    by_cases e : a = b + 1
    · rw [e]; exact Nat.le_refl _
    · have := ih (by omega); rw [p3_s]; omega
theorem f3_mono {a b : Nat} (h : a ≤ b) : f3 a ≤ f3 b := by have h1 := f3_p3 a; have h2 := f3_p3 b; have := p3_mono h; omega
theorem p3_6 {n : Nat} (h : n ≤ 6) : p3 n ≤ 729 := p3_mono h
/-- the two static arrays hold these numbers -/
theorem tP_p3 {n : Nat} (h : n ≤ 5) : tP n = (p3 n : Nat) := by
  rcases (show n = 0 ∨ n = 1 ∨ n = 2 ∨ n = 3 ∨ n = 4 ∨ n = 5 by omega) with rfl | rfl | rfl | rfl | rfl | rfl <;> rfl
theorem tF_f3 {n : Nat} (h : n ≤ 6) : tF n = (f3 n : Nat) := by
  rcases (show n = 0 ∨ n = 1 ∨ n = 2 ∨ n = 3 ∨ n = 4 ∨ n = 5 ∨ n = 6 by omega) with rfl | rfl | rfl | rfl | rfl | rfl | rfl <;> rfl
/-- how many words -/
def L3 (v : Nat) : Nat := if v < 1 then 0 else if v < 4 then 1 else if v < 13 then 2 else if v < 40 then 3 else if v < 121 then 4 else 5
theorem L3_le (v : Nat) : L3 v ≤ 5 := by unfold L3; split <;> (try split) <;> (try split) <;> (try split) <;> (try split) <;> omega
theorem L3_lo : ∀ v, v < 364 → f3 (L3 v) ≤ v ∧ v < f3 (L3 v + 1) := by decide +kernel
theorem L3_up {v n : Nat} (hv : v < 364) (h1 : f3 n ≤ v) (h2 : v < f3 (n + 1)) : L3 v = n := by
  obtain ⟨a, b⟩ := L3_lo v hv
  rcases Nat.lt_trichotomy (L3 v) n with h | h | h
  · have := f3_mono (show L3 v + 1 ≤ n by omega); omega
  · exact h
  · have := f3_mono (show n + 1 ≤ L3 v by omega); omega
/-- the i-th word, 0 to 2 -/
def wd (v i : Nat) : Nat := (v - f3 (L3 v)) / p3 (L3 v - 1 - i) % 3
theorem L3_f {v : Nat} (hv : v < 364) : f3 (L3 v) ≤ v ∧ v < f3 (L3 v) + p3 (L3 v) ∧ p3 (L3 v) ≤ 243 := ⟨(L3_lo v hv).1, (L3_lo v hv).2, p3_mono (b := 5) (L3_le v)⟩
/-- what wordOf answers of a saying, of a bird's saying (-1: none) -/
def wordS (v : Nat) (i : Int) : Int := if i = -1 then (L3 v : Nat) else if 0 ≤ i ∧ i < (L3 v : Nat) then ((97 + wd v i.toNat : Nat) : Int) else -6
def wordO (s i : Int) : Int := if s = -1 then -6 else wordS s.toNat i
theorem wordS_len (v : Nat) : wordS v (-1) = (L3 v : Nat) := by simp [wordS]
theorem wordS_in {v j : Nat} (h : j < L3 v) : wordS v (j : Int) = ((97 + wd v j : Nat) : Int) := by
  unfold wordS
  rw [if_neg (by omega), if_pos (by omega)]
  rfl
theorem wordS_out {v : Nat} {i : Int} (h1 : i ≠ -1) (h2 : i < 0 ∨ (L3 v : Nat) ≤ i) : wordS v i = -6 := by
  unfold wordS
  rw [if_neg h1, if_neg (by omega)]
theorem rL_n {n : Nat} (h : n < 9223372036854775808) : rL n := by unfold rL; omega
theorem mulN {a b : Nat} (h : a * b < 2147483648) : w32 ((a : Int) * (b : Int)) = ((a * b : Nat) : Int) := by rw [← Int.natCast_mul]; exact w32_id (rI_n h)
theorem mul_lt {a b A B : Nat} (ha : a ≤ A) (hb : b ≤ B) (h : A * B < 2147483648) : a * b < 2147483648 := Nat.lt_of_le_of_lt (Nat.mul_le_mul ha hb) h
/-- the slip of v by sort s at place p with word w (1 left out, 2 changed, 3 put in) -/
def sp (s v p w : Nat) : Nat :=
  if s = 3 then f3 (L3 v + 1) + ((v - f3 (L3 v)) / p3 (L3 v - p) * 3 + w) * p3 (L3 v - p) + (v - f3 (L3 v)) % p3 (L3 v - p)
  else if s = 1 then f3 (L3 v - 1) + (v - f3 (L3 v)) / (p3 (L3 v - 1 - p) * 3) * p3 (L3 v - 1 - p) + (v - f3 (L3 v)) % p3 (L3 v - 1 - p)
  else f3 (L3 v) + ((v - f3 (L3 v)) / (p3 (L3 v - 1 - p) * 3) * 3 + w) * p3 (L3 v - 1 - p) + (v - f3 (L3 v)) % p3 (L3 v - 1 - p)
/-- how many places, how many words at each -/
def spP (s v : Nat) : Nat := if s = 3 then (if L3 v = 5 then 0 else L3 v + 1) else L3 v
def spW (s : Nat) : Nat := if s = 1 then 1 else 3
theorem sp_lt : ∀ s, s < 4 → 1 ≤ s → ∀ v, v < 364 → ∀ p, p < spP s v → ∀ w, w < spW s → sp s v p w < 364 := by decide +kernel
def addU (v : Nat) (l : List Nat) (x : Nat) : List Nat := if x = v ∨ x ∈ l then l else l ++ [x]
/-- the candidates of place p: words 0, 1 .. below n -/
def slW (s v p : Nat) (l : List Nat) : Nat → List Nat
  | 0 => l
  | w + 1 => addU v (slW s v p l w) (sp s v p w)
def slP (s v : Nat) : Nat → List Nat
  | 0 => []
  | p + 1 => slW s v p (slP s v p) (spW s)
/-- the slips of v by sort s, in their order -/
def slL (s v : Nat) : List Nat := if 1 ≤ s ∧ s ≤ 3 then slP s v (spP s v) else []
def slN (s v : Nat) : Nat := (slL s v).length
/-- the slip of that number, or v itself -/
def nth (s v n : Nat) : Nat := if 1 ≤ n ∧ n ≤ slN s v then (slL s v).getD (n - 1) 0 else v
/-- where the slips of row r (sort - 1 times 364, and the saying) begin -/
def stt : Nat → Nat
  | 0 => 0
  | r + 1 => stt r + slN (r / 364 + 1) (r % 364)
theorem slN_le : ∀ s, s < 4 → ∀ v, v < 364 → slN s v ≤ 15 := by decide +kernel
theorem sl_lt : ∀ s, s < 4 → ∀ v, v < 364 → ∀ x ∈ slL s v, x < 364 := by decide +kernel
theorem stt_mono {a b : Nat} (h : a ≤ b) : stt a ≤ stt b := by
  induction b with
  | zero => rw [Nat.le_zero.mp h]; exact Nat.le_refl _
  | succ b ih =>
    by_cases e : a = b + 1
    · rw [e]; exact Nat.le_refl _
    · have := ih (by omega); show stt a ≤ stt b + _; omega
theorem bw_or {b x : Nat} (h : x < 2 ^ b) : x ||| 1 * 2 ^ b < 2 ^ (b + 1) := by
  refine Nat.or_lt_two_pow ?_ ?_
  · have := Nat.pow_lt_pow_right (show 1 < 2 by omega) (show b < b + 1 by omega); omega
  · have := Nat.pow_lt_pow_right (show 1 < 2 by omega) (show b < b + 1 by omega); omega
def bw (g : Nat → Int) : Nat → Nat
  | 0 => 0
  | b + 1 => if g b = -1 then bw g b else bw g b ||| 1 * 2 ^ b
theorem bw_s (g : Nat → Int) (b : Nat) : bw g (b + 1) = if g b = -1 then bw g b else bw g b ||| 1 * 2 ^ b := rfl
theorem bw_lt (g : Nat → Int) : ∀ b, bw g b < 2 ^ b
  | 0 => by simp [bw]
  | b + 1 => by
    have h := bw_lt g b
    unfold bw
    split
    · have := Nat.pow_lt_pow_right (show 1 < 2 by omega) (show b < b + 1 by omega); omega
    · exact bw_or h
theorem stt_tot : stt 1092 = 5712 := by decide +kernel
