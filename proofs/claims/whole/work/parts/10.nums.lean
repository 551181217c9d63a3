/-! sayings as numbers: 0 to 363, by length, then letters -/
def p3 : Nat → Nat
  | 0 => 1
  | k + 1 => 3 * p3 k
def f3 : Nat → Nat
  | 0 => 0
  | k + 1 => f3 k + p3 k
theorem p3_s (k : Nat) : p3 (k + 1) = 3 * p3 k := rfl
theorem f3_s (k : Nat) : f3 (k + 1) = f3 k + p3 k := rfl
theorem f3_p3 : ∀ n, 2 * f3 n + 1 = p3 n
  | 0 => rfl
  | n + 1 => by have := f3_p3 n; rw [p3_s, f3_s]; omega
theorem p3_pos : ∀ n, 1 ≤ p3 n
  | 0 => Nat.le_refl 1
  | n + 1 => by have := p3_pos n; rw [p3_s]; omega
theorem p3_mono {a b : Nat} (h : a ≤ b) : p3 a ≤ p3 b := by
  induction b with
  | zero => rw [Nat.le_zero.mp h]; exact Nat.le_refl _
  | succ b ih =>
    by_cases e : a = b + 1
    · rw [e]; exact Nat.le_refl _
    · have := ih (by omega); rw [p3_s]; omega
theorem f3_mono {a b : Nat} (h : a ≤ b) : f3 a ≤ f3 b := by have h1 := f3_p3 a; have h2 := f3_p3 b; have := p3_mono h; omega
theorem p3_6 {n : Nat} (h : n ≤ 6) : p3 n ≤ 729 := p3_mono h
/-- how many words -/
def L3 (v : Nat) : Nat := if v < 1 then 0 else if v < 4 then 1 else if v < 13 then 2 else if v < 40 then 3 else if v < 121 then 4 else 5
theorem L3_le (v : Nat) : L3 v ≤ 5 := by unfold L3; split <;> (try split) <;> (try split) <;> (try split) <;> (try split) <;> omega
theorem L3_lo : ∀ v, v < 364 → f3 (L3 v) ≤ v ∧ v < f3 (L3 v + 1) := by decide +kernel
theorem L3_up {v n : Nat} (hv : v < 364) (h1 : f3 n ≤ v) (h2 : v < f3 (n + 1)) : L3 v = n := by
  obtain ⟨a, b⟩ := L3_lo v hv
  rcases Nat.lt_trichotomy (L3 v) n with h | h | h
  · have := f3_mono (show L3 v + 1 ≤ n by omega); omega
  · exact h
  · have := f3_mono (show n + 1 ≤ L3 v by omega); omega
/-- the i-th word, 0 to 2 -/
def wd (v i : Nat) : Nat := (v - f3 (L3 v)) / p3 (L3 v - 1 - i) % 3
