/-! the reference's small sums -/
theorem lcmp_lt {a b : Int} : lcmpI a b < 0 ↔ a < b := by unfold lcmpI; split; { omega }; { split <;> omega }
theorem lcmp_gt {a b : Int} : 0 < lcmpI a b ↔ b < a := by unfold lcmpI; split; { omega }; { split <;> omega }
theorem lcmp_eq {a b : Int} : lcmpI a b = 0 ↔ a = b := by unfold lcmpI; split; { omega }; { split <;> omega }
/-- how many bits -/
def pb : Nat → Nat → Nat
  | 0, _ => 0
  | f + 1, n => n % 2 + pb f (n / 2)
theorem pb_s (f n : Nat) : pb (f + 1) n = n % 2 + pb f (n / 2) := rfl
theorem and_half (a b : Nat) : (a &&& b) / 2 = a / 2 &&& b / 2 := by
  apply Nat.eq_of_testBit_eq
  intro i
  rw [Nat.testBit_div_two, Nat.testBit_and, Nat.testBit_and, Nat.testBit_div_two, Nat.testBit_div_two]
theorem and_par (a b : Nat) : (a &&& b) % 2 = a % 2 * (b % 2) := by
  have h := Nat.testBit_and a b 0
  rw [Nat.testBit_zero, Nat.testBit_zero, Nat.testBit_zero] at h
  rcases Nat.mod_two_eq_zero_or_one a with ha | ha <;> rcases Nat.mod_two_eq_zero_or_one b with hb | hb <;> rcases Nat.mod_two_eq_zero_or_one (a &&& b) with hc | hc <;> rw [ha, hb, hc] at h ⊢ <;> simp at h ⊢
theorem pb_step : ∀ f n, n < 2 ^ f → n ≠ 0 → pb f (n &&& (n - 1)) + 1 = pb f n
  | 0, n, h, h0 => by simp at h; omega
  | f + 1, n, h, h0 => by
    rw [pb_s, pb_s, and_half, and_par]
    rcases Nat.mod_two_eq_zero_or_one n with e | e
    · have e1 : (n - 1) / 2 = n / 2 - 1 := by omega
      rw [e, Nat.zero_mul, e1, Nat.zero_add, Nat.zero_add]
      exact pb_step f (n / 2) (by rw [Nat.pow_succ] at h; omega) (by omega)
    · have e1 : (n - 1) / 2 = n / 2 := by omega
      have e2 : (n - 1) % 2 = 0 := by omega
      rw [e, e1, e2, Nat.and_self]; omega
theorem pb_le : ∀ f n, pb f n ≤ f
  | 0, _ => Nat.le_refl 0
  | f + 1, n => by have := pb_le f (n / 2); rw [pb_s]; omega
theorem pb_bc : ∀ n, n < 64 → pb 32 n = bc n := by decide +kernel
theorem pb_one : ∀ j, j < 27 → pb 32 (2 ^ j) = 1 := by decide +kernel
theorem pb_1 : ∀ f n i, i < f → n.testBit i = true → 1 ≤ pb f n
  | 0, _, i, h, _ => absurd h (Nat.not_lt_zero i)
  | f + 1, n, 0, _, hb => by
    rw [Nat.testBit_zero] at hb
    have : n % 2 = 1 := of_decide_eq_true hb
    rw [pb_s]; omega
  | f + 1, n, i + 1, h, hb => by
    have := pb_1 f (n / 2) i (by omega) (by rw [Nat.testBit_div_two]; exact hb)
    rw [pb_s]; omega
theorem pb_2 : ∀ f n i j, i < j → j < f → n.testBit i = true → n.testBit j = true → 2 ≤ pb f n
  | 0, _, _, j, _, h, _, _ => absurd h (Nat.not_lt_zero j)
  | f + 1, n, 0, j + 1, _, h, hb, hc => by
    rw [Nat.testBit_zero] at hb
    have h1 : n % 2 = 1 := of_decide_eq_true hb
    have := pb_1 f (n / 2) j (by omega) (by rw [Nat.testBit_div_two]; exact hc)
    rw [pb_s]; omega
  | f + 1, n, i + 1, 0, hij, _, _, _ => absurd hij (Nat.not_lt_zero _)
  | f + 1, n, i + 1, j + 1, hij, h, hb, hc => by
    have := pb_2 f (n / 2) i j (by omega) (by omega) (by rw [Nat.testBit_div_two]; exact hb) (by rw [Nat.testBit_div_two]; exact hc)
    rw [pb_s]; omega
/-- the words of v behind one slip: left out at p, w for that at p, w ahead of that at p -/
def wx (how v p w i : Nat) : Nat := if how = 1 then wd v (if i < p then i else i + 1) else if how = 2 then (if i = p then w else wd v i) else (if i = p then w else wd v (if i < p then i else i - 1))
def nwM (how v : Nat) : Nat := if how = 1 then L3 v - 1 else if how = 3 then L3 v + 1 else L3 v
def nwV (how v p w : Nat) : Nat → Nat
  | 0 => 0
  | k + 1 => 3 * nwV how v p w k + wx how v p w k
theorem nw_sp : ∀ v, v < 364 → ∀ how, how < 4 → 1 ≤ how → ∀ p, p < spP how v → ∀ w, w < 3 → f3 (nwM how v) + nwV how v p w (nwM how v) = sp how v p w := by decide +kernel
theorem wx_le {how v p w i : Nat} (hw : w < 3) : wx how v p w i < 3 := by
  have h3 : ∀ j, wd v j < 3 := fun j => Nat.mod_lt _ (by decide)
  unfold wx
  split
  · exact h3 _
  · split
    · split
      · exact hw
      · exact h3 _
    · split
      · exact hw
      · exact h3 _
theorem nwV_lt {how v p w : Nat} (hw : w < 3) : ∀ k, nwV how v p w k < p3 k
  | 0 => Nat.lt_succ_self 0
  | k + 1 => by
    have := nwV_lt (how := how) (v := v) (p := p) hw k
    have := wx_le (how := how) (v := v) (p := p) (i := k) hw
    show 3 * nwV how v p w k + wx how v p w k < 3 * p3 k
    omega
/-- the word at i, by dividing -/
theorem wd_div : ∀ v, v < 364 → ∀ i, i < L3 v → (v - f3 (L3 v)) / p3 (L3 v - 1 - i) % 3 = wd v i := fun _ _ _ _ => rfl
theorem div_s {x k : Nat} : x / p3 k / 3 = x / p3 (k + 1) := by rw [p3_s, Nat.div_div_eq_div_mul, Nat.mul_comm]
theorem nwE {how v p w k x : Nat} (h : nwV how v p w (k + 1) = 3 * nwV how v p w k + x) (hl : nwV how v p w (k + 1) < 2147483648) : w32 (((3 * nwV how v p w k : Nat) : Int) + (x : Int)) = ((nwV how v p w (k + 1) : Nat) : Int) := by
  rw [h] at hl ⊢
  exact addN hl
theorem wordO_s {v : Nat} {i : Int} : wordO (encC (some v)) i = wordS v i := by
  unfold wordO encC
  dsimp only
  rw [if_neg (by omega)]
  rfl
