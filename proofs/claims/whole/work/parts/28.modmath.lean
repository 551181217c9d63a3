/-! the reference's small sums -/
theorem lcmp_lt {a b : Int} : lcmpI a b < 0 ↔ a < b := by unfold lcmpI; split; { omega }; { split <;> omega }
theorem lcmp_gt {a b : Int} : 0 < lcmpI a b ↔ b < a := by unfold lcmpI; split; { omega }; { split <;> omega }
theorem lcmp_eq {a b : Int} : lcmpI a b = 0 ↔ a = b := by unfold lcmpI; split; { omega }; { split <;> omega }
/-- how many bits -/
def pb : Nat → Nat → Nat
  | 0, _ => 0
  | f + 1, n => n % 2 + pb f (n / 2)
theorem pb_s (f n : Nat) : pb (f + 1) n = n % 2 + pb f (n / 2) := rfl
theorem and_half (a b : Nat) : (a &&& b) / 2 = a / 2 &&& b / 2 := by
  apply Nat.eq_of_testBit_eq
  intro i
  rw [Nat.testBit_div_two, Nat.testBit_and, Nat.testBit_and, Nat.testBit_div_two, Nat.testBit_div_two]
theorem and_par (a b : Nat) : (a &&& b) % 2 = a % 2 * (b % 2) := by
  have h := Nat.testBit_and a b 0
  rw [Nat.testBit_zero, Nat.testBit_zero, Nat.testBit_zero] at h
  rcases Nat.mod_two_eq_zero_or_one a with ha | ha <;> rcases Nat.mod_two_eq_zero_or_one b with hb | hb <;> rcases Nat.mod_two_eq_zero_or_one (a &&& b) with hc | hc <;> rw [ha, hb, hc] at h ⊢ <;> simp at h ⊢
theorem pb_step : ∀ f n, n < 2 ^ f → n ≠ 0 → pb f (n &&& (n - 1)) + 1 = pb f n
  | 0, n, h, h0 => by simp at h; omega
  | f + 1, n, h, h0 => by
    rw [pb_s, pb_s, and_half, and_par]
    rcases Nat.mod_two_eq_zero_or_one n with e | e
    · have e1 : (n - 1) / 2 = n / 2 - 1 := by omega
      rw [e, Nat.zero_mul, e1, Nat.zero_add, Nat.zero_add]
      exact pb_step f (n / 2) (by rw [Nat.pow_succ] at h; omega) (by omega)
    · have e1 : (n - 1) / 2 = n / 2 := by omega
      have e2 : (n - 1) % 2 = 0 := by omega
      rw [e, e1, e2, Nat.and_self]; omega
theorem pb_le : ∀ f n, pb f n ≤ f
  | 0, _ => Nat.le_refl 0
  | f + 1, n => by have := pb_le f (n / 2); rw [pb_s]; omega
theorem pb_bc : ∀ n, n < 64 → pb 32 n = bc n := by decide +kernel
theorem pb_one : ∀ j, j < 27 → pb 32 (2 ^ j) = 1 := by decide +kernel
theorem pb_1 : ∀ f n i, i < f → n.testBit i = true → 1 ≤ pb f n
  | 0, _, i, h, _ => absurd h (Nat.not_lt_zero i)
  | f + 1, n, 0, _, hb => by
    rw [Nat.testBit_zero] at hb
    have : n % 2 = 1 := of_decide_eq_true hb
    rw [pb_s]; omega
  | f + 1, n, i + 1, h, hb => by
    have := pb_1 f (n / 2) i (by omega) (by rw [Nat.testBit_div_two]; exact hb)
    rw [pb_s]; omega
theorem pb_2 : ∀ f n i j, i < j → j < f → n.testBit i = true → n.testBit j = true → 2 ≤ pb f n
  | 0, _, _, j, _, h, _, _ => absurd h (Nat.not_lt_zero j)
  | f + 1, n, 0, j + 1, _, h, hb, hc => by
    rw [Nat.testBit_zero] at hb
    have h1 : n % 2 = 1 := of_decide_eq_true hb
    have := pb_1 f (n / 2) j (by omega) (by rw [Nat.testBit_div_two]; exact hc)
    rw [pb_s]; omega
  | f + 1, n, i + 1, 0, hij, _, _, _ => absurd hij (Nat.not_lt_zero _)
  | f + 1, n, i + 1, j + 1, hij, h, hb, hc => by
    have := pb_2 f (n / 2) i j (by omega) (by omega) (by rw [Nat.testBit_div_two]; exact hb) (by rw [Nat.testBit_div_two]; exact hc)
    rw [pb_s]; omega
/-- the words of v behind one slip: left out at p, w for that at p, w ahead of that at p -/
def wx (how v p w i : Nat) : Nat := if how = 1 then wd v (if i < p then i else i + 1) else if how = 2 then (if i = p then w else wd v i) else (if i = p then w else wd v (if i < p then i else i - 1))
def nwM (how v : Nat) : Nat := if how = 1 then L3 v - 1 else if how = 3 then L3 v + 1 else L3 v
def nwV (how v p w : Nat) : Nat → Nat
  | 0 => 0
  | k + 1 => 3 * nwV how v p w k + wx how v p w k
theorem nw_sp : ∀ v, v < 364 → ∀ how, how < 4 → 1 ≤ how → ∀ p, p < spP how v → ∀ w, w < 3 → f3 (nwM how v) + nwV how v p w (nwM how v) = sp how v p w := by decide +kernel
theorem wx_le {how v p w i : Nat} (hw : w < 3) : wx how v p w i < 3 := by
  have h3 : ∀ j, wd v j < 3 := fun j => Nat.mod_lt _ (by decide)
  unfold wx
  split
  · exact h3 _
  · split
    · split
      · exact hw
      · exact h3 _
    · split
      · exact hw
      · exact h3 _
theorem nwV_lt {how v p w : Nat} (hw : w < 3) : ∀ k, nwV how v p w k < p3 k
  | 0 => Nat.lt_succ_self 0
  | k + 1 => by
    have := nwV_lt (how := how) (v := v) (p := p) hw k
    have := wx_le (how := how) (v := v) (p := p) (i := k) hw
    show 3 * nwV how v p w k + wx how v p w k < 3 * p3 k
    omega
/-- the word at i, by dividing -/
theorem wd_div : ∀ v, v < 364 → ∀ i, i < L3 v → (v - f3 (L3 v)) / p3 (L3 v - 1 - i) % 3 = wd v i := fun _ _ _ _ => rfl
theorem div_s {x k : Nat} : x / p3 k / 3 = x / p3 (k + 1) := by rw [p3_s, Nat.div_div_eq_div_mul, Nat.mul_comm]
theorem nwE {how v p w k x : Nat} (h : nwV how v p w (k + 1) = 3 * nwV how v p w k + x) (hl : nwV how v p w (k + 1) < 2147483648) : w32 (((3 * nwV how v p w k : Nat) : Int) + (x : Int)) = ((nwV how v p w (k + 1) : Nat) : Int) := by
  rw [h] at hl ⊢
  exact addN hl
theorem wordO_s {v : Nat} {i : Int} : wordO (encC (some v)) i = wordS v i := by
  unfold wordO encC
  dsimp only
  rw [if_neg (by omega)]
  rfl
/-- the reference's rows hold σ -/
def MR (hi : HI) (σ : SG) : Prop := WF σ ∧ (∀ b, b < 6 → hi 80 b = (so σ b : Nat)) ∧ (∀ b, b < 6 → hi 84 b = encM (te σ b)) ∧ hi 77 8 = (nn σ : Nat) ∧ (∀ p, p < nn σ → hi 81 p = (sp' σ p : Nat) ∧ hi 82 p = (he σ p : Nat) ∧ hi 83 p = (di σ p : Nat)) ∧ hi 77 9 = (bg σ : Nat) ∧ hi 77 11 = (ra σ : Nat)
theorem MR_up {hi hi' : HI} {σ : SG} (h : MR hi σ) (e8 : hi' 77 8 = hi 77 8) (e9 : hi' 77 9 = hi 77 9) (e11 : hi' 77 11 = hi 77 11) (e80 : hi' 80 = hi 80) (e81 : hi' 81 = hi 81) (e82 : hi' 82 = hi 82) (e83 : hi' 83 = hi 83) (e84 : hi' 84 = hi 84) : MR hi' σ := by
  unfold MR
  rw [e8, e9, e11, e80, e81, e82, e83, e84]
  exact h
def WM (r77 r86 r87 : Nat → Int) (w : WS) (p : Nat) : Prop := okW w ∧ (∀ b, b < 6 → r86 b = encM (w.1 b)) ∧ (∀ j, j < p → r87 j = b2i (w.2.1 j)) ∧ r77 15 = (w.2.2 : Nat)
theorem WM_step {r77 r86 r87 r77' r86' r87' : Nat → Int} {σ : SG} {b : Nat} {first : Bool} {by_ : Nat} {w : WS} {p : Nat} (hs : WF σ) (hp : p < nn σ) (hb : b < 364) (hW : WM r77 r86 r87 w p) (h1 : r77' 15 = (siF σ w p : Nat)) (h2 : ∀ x, x < 6 → r86' x = encM ((wstep σ b first by_ w p).1 x)) (h3 : r87' p = b2i (hearsB σ first w p)) (h4 : ∀ j, j < p → r87' j = r87 j) : WM r77' r86' r87' (wstep σ b first by_ w p) (p + 1) := by
  refine ⟨okW_step hs hp hb hW.1, h2, fun j hj => ?_, h1⟩
  show r87' j = b2i (updF w.2.1 p (hearsB σ first w p) j)
  by_cases e : j = p
  · rw [e, updF_s, h3]
  · rw [updF_n e, h4 j (by omega), hW.2.2.1 j (by omega)]
theorem WM_no {r77 r86 r87 r77' r87' : Nat → Int} {σ : SG} {b : Nat} {first : Bool} {by_ : Nat} {w : WS} {p : Nat} (hs : WF σ) (hp : p < nn σ) (hb : b < 364) (hW : WM r77 r86 r87 w p) (h1 : r77' 15 = (siF σ w p : Nat)) (h3 : r87' p = b2i (hearsB σ first w p)) (h4 : ∀ j, j < p → r87' j = r87 j) (hn : hearsB σ first w p = false) : WM r77' r86 r87' (wstep σ b first by_ w p) (p + 1) := by
  refine WM_step hs hp hb hW h1 (fun x hx => ?_) h3 h4
  rw [hW.2.1 x hx]
  show encM (w.1 x) = encM ((if hearsB σ first w p then _ else w.1) x)
  rw [hn]; rfl
theorem WM_yes {r77 r86 r87 r77' r87' : Nat → Int} {σ : SG} {b : Nat} {first : Bool} {by_ y : Nat} {w : WS} {p : Nat} (hs : WF σ) (hp : p < nn σ) (hb : b < 364) (hW : WM r77 r86 r87 w p) (h1 : r77' 15 = (siF σ w p : Nat)) (h3 : r87' p = b2i (hearsB σ first w p)) (h4 : ∀ j, j < p → r87' j = r87 j) (hn : hearsB σ first w p = true) (hy : y = nth (so σ (he σ p)) (saidF σ b w p) by_) : WM r77' (updF r86 (he σ p) (y : Nat)) r87' (wstep σ b first by_ w p) (p + 1) := by
  subst hy
  refine WM_step hs hp hb hW h1 (fun x hx => ?_) h3 h4
  show _ = encM ((if hearsB σ first w p then updF w.1 (he σ p) (some (nth (so σ (he σ p)) (saidF σ b w p) by_)) else w.1) x)
  rw [if_pos hn]
  by_cases e : x = he σ p
  · rw [e, updF_s, updF_s]; rfl
  · rw [updF_n e, updF_n e, hW.2.1 x hx]
theorem encM_n {o : Option Nat} (h : ¬ 0 ≤ encM o) : o = none := encM_none.mp (by omega)
theorem encM_s {o : Option Nat} (h : 0 ≤ encM o) : ∃ v, o = some v := by cases o with
  | none => exact absurd h (by decide)
  | some v => exact ⟨v, rfl⟩
theorem siF_n {σ : SG} {w : WS} {p : Nat} (h : ¬ sp' σ p = 7) : siF σ w p = w.2.2 := by unfold siF; rw [if_neg h]
theorem siF_m {σ : SG} {w : WS} {p : Nat} (h : sp' σ p = 7) : siF σ w p = w.2.2 ^^^ (1 * 2 ^ he σ p) := by unfold siF; rw [if_pos h]
def bysF (σ : SG) (a : Int) (y : Nat) (p : Nat) : Nat := if a < 0 then di σ p else if (p : Int) = a then y else 0
theorem yst_if {σ : SG} {first : Bool} {y : WS × Nat} {p : Nat} : ystep σ first y p = (wstep σ (bg σ) first (if hearsB σ first y.1 p then (drawF σ y.1 p y.2).1 else 0) y.1 p, if hearsB σ first y.1 p then (drawF σ y.1 p y.2).2 else y.2) := by
  unfold ystep
  split <;> rfl
theorem draw_15 {σ : SG} {w : WS} {p x : Nat} (hs : WF σ) (hp : p < nn σ) (hw : okW w) : (drawF σ w p x).1 ≤ 15 := by
  unfold drawF
  split
  · split
    · show 0 ≤ 15; omega
    · dsimp only
      split
      · omega
      · have h1 := slN_15 (s := so σ (he σ p)) (v := saidF σ (bg σ) w p) (hs.1 _ (by have := hs.2.2.2.1 p hp; omega)) (said_lt hs.2.2.2.2.1 hw)
        have h2 := Nat.mod_lt (nx (nx x)) (show 0 < slN (so σ (he σ p)) (saidF σ (bg σ) w p) by omega)
        omega
  · show 0 ≤ 15; omega
/-- the reference's names of what must come next; how many parts are begun -/
def rst (n : Nat) : Nat := if n = 2 then 3 else if n = 3 then 2 else n
def rmn (s : PSt) : Nat := s.2.2.1 + (if s.1 = 1 ∨ s.1 = 2 then 1 else 0)
theorem rst_f {n : Nat} (h : n ≤ 3) : (n = 0 ∧ rst n = 0) ∨ (n = 1 ∧ rst n = 1) ∨ (n = 2 ∧ rst n = 3) ∨ (n = 3 ∧ rst n = 2) := by
  rcases (show n = 0 ∨ n = 1 ∨ n = 2 ∨ n = 3 by omega) with e | e | e | e <;> subst e <;> simp [rst]
theorem rmn_f (s : PSt) : (s.1 = 1 ∨ s.1 = 2 → rmn s = s.2.2.1 + 1) ∧ (¬ (s.1 = 1 ∨ s.1 = 2) → rmn s = s.2.2.1) := by
  unfold rmn
  constructor
  · intro h; rw [if_pos h]
  · intro h; rw [if_neg h]; rfl
theorem spOf_l {c : Int} (h : 65 ≤ c ∧ c ≤ 70) : spOf c = c - 65 := by unfold spOf; rw [if_neg (by omega), if_neg (by omega), if_pos (by omega)]
theorem spOf_i {x c : Int} (h : 65 ≤ c ∧ c ≤ 70) (e : spOf x = c - 65) : x = c := by
  unfold spOf at e
  split at e
  · omega
  · split at e
    · omega
    · split at e <;> omega
theorem spOf_n {c : Int} (h : ¬ (c = 88 ∨ c = 109 ∨ (65 ≤ c ∧ c ≤ 70))) : spOf c = -1 := by unfold spOf; rw [if_neg (by omega), if_neg (by omega), if_neg (by omega)]
theorem spOf_y {c : Int} (h : c = 88 ∨ c = 109 ∨ (65 ≤ c ∧ c ≤ 70)) : spOf c ≠ -1 ∧ (spOf c = 7 ↔ c = 109) := by
  unfold spOf
  split
  · omega
  · split
    · omega
    · split <;> omega
