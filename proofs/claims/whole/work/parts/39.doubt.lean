/-! which bargains can be taken for one another, with one slip at most in each history -/
theorem bw_bit (g : Nat → Int) : ∀ k c, c < k → (bw g k).testBit c = decide (g c ≠ -1)
  | 0, c, h => absurd h (Nat.not_lt_zero c)
  | k + 1, c, h => by
    have hl := bw_lt g k
    rw [bw_s]
    by_cases e : c = k
    · subst e
      have hz : (bw g c).testBit c = false := Nat.testBit_lt_two_pow hl
      by_cases q : g c = -1
      · rw [if_pos q, hz, decide_eq_false (fun z => z q)]
      · rw [if_neg q, Nat.testBit_or, hz, Nat.one_mul, Nat.testBit_two_pow, decide_eq_true q]; simp
    · have ih := bw_bit g k c (by omega)
      by_cases q : g k = -1
      · rw [if_pos q]; exact ih
      · rw [if_neg q, Nat.testBit_or, Nat.one_mul, Nat.testBit_two_pow, decide_eq_false (Ne.symm e), Bool.or_false]; exact ih
theorem eq64 {a b : Nat} (ha : a < 64) (hb : b < 64) (h : ∀ c, c < 6 → a.testBit c = b.testBit c) : a = b := by
  apply Nat.eq_of_testBit_eq
  intro i
  by_cases hi : i < 6
  · exact h i hi
  · have h2 : 2 ^ 6 ≤ 2 ^ i := Nat.pow_le_pow_right (by omega) (by omega)
    rw [Nat.testBit_lt_two_pow (show a < 2 ^ i by omega), Nat.testBit_lt_two_pow (show b < 2 ^ i by omega)]
theorem b63 : ∀ c, c < 6 → (63 : Nat).testBit c = true := by decide
theorem nt_bit {s r c : Nat} (hc : c < 6) : (nt_ s r).testBit c = (s.testBit c && !(r.testBit c)) := by
  unfold nt_
  rw [Nat.testBit_and, Nat.testBit_xor, b63 c hc]; cases r.testBit c <;> rfl
theorem nt0 {s r : Nat} (hs : s < 64) (hr : r < 64) : nt_ s r = 0 ↔ ∀ c, c < 6 → s.testBit c = true → r.testBit c = true := by
  constructor
  · intro h c hc h1
    have := nt_bit (s := s) (r := r) hc
    rw [h, Nat.zero_testBit, h1] at this
    cases hx : r.testBit c with
    | true => rfl
    | false => rw [hx] at this; cases this
  · intro h
    refine eq64 (nt_lt s hs r hr) (by omega) (fun c hc => ?_)
    rw [nt_bit hc, Nat.zero_testBit]
    cases hx : s.testBit c with
    | false => rfl
    | true => rw [h c hc hx]; rfl
theorem nt_eq {s r q : Nat} (hs : s < 64) (hr : r < 64) (hq : q < 64) : s &&& q = nt_ s r ↔ ∀ c, c < 6 → s.testBit c = true → q.testBit c = !(r.testBit c) := by
  constructor
  · intro h c hc h1
    have := nt_bit (s := s) (r := r) hc
    rw [← h, Nat.testBit_and, h1] at this
    simpa using this
  · intro h
    refine eq64 (and64 s hs q hq) (nt_lt s hs r hr) (fun c hc => ?_)
    rw [nt_bit hc, Nat.testBit_and]
    cases hx : s.testBit c with
    | false => rfl
    | true => rw [h c hc hx]
theorem said_z {σ : SG} {B : Nat} {w : WS} {k : Nat} (hk : sp' σ k ≤ 7) (hB : hearsB σ true w k = true) (hw : ∀ x, w.1 x = none ∨ w.1 x = some B) : saidF σ B w k = B := by
  unfold saidF
  by_cases c : sp' σ k = 6
  · rw [if_pos c]
  · rw [if_neg c]
    rcases hB_heard hk hB with e | ⟨e, v, hv⟩
    · exact absurd e c
    · rcases hw (sp' σ k) with z | z
      · rw [hv] at z; cases z
      · rw [z]; rfl
theorem st_1 {σ : SG} {B y : Nat} {w : WS} {k : Nat} : (wstep σ B true y w k).1 = if hearsB σ true w k then updF w.1 (he σ k) (some (nth (so σ (he σ k)) (saidF σ B w k) y)) else w.1 := rfl
theorem run_s {σ : SG} {B : Nat} {bys : Nat → Nat} {k : Nat} : wrun σ B true bys wZ (k + 1) = wstep σ B true (bys k) (wrun σ B true bys wZ k) k := rfl
/-- as long as no slip has come, each keeps the bargain or nothing -/
theorem run_z {σ : SG} {B : Nat} {bys : Nat → Nat} (hs : WF σ) : ∀ k, k ≤ nn σ → (∀ q, q < k → bys q = 0) → ∀ x, (wrun σ B true bys wZ k).1 x = none ∨ (wrun σ B true bys wZ k).1 x = some B
  | 0, _, _, _ => Or.inl rfl
  | k + 1, hk, hy, x => by
    have ih := run_z (B := B) hs k (by omega) (fun q hq => hy q (by omega))
    have hp := hs.2.2.2.1 k (by omega)
    rw [run_s, st_1]
    by_cases hB : hearsB σ true (wrun σ B true bys wZ k) k = true
    · rw [if_pos hB]
      by_cases e : x = he σ k
      · rw [e, updF_s, hy k (by omega), nth_0 (by omega), said_z hp.1 hB ih]; exact Or.inr rfl
      · rw [updF_n e]; exact ih x
    · rw [if_neg hB]; exact ih x
/-- what each says in the end comes of what one kept then, or of the bargain -/
theorem run_fin {σ : SG} {B : Nat} {bys : Nat → Nat} (hs : WF σ) : ∀ i, i ≤ nn σ → (∀ q, nn σ - i ≤ q → q < nn σ → bys q = 0) → ∀ c, c < 6 →
    (∀ b, b < 6 → (rlF σ (heardF σ) i b).testBit c = true → (wrun σ B true bys wZ (nn σ)).1 c = (wrun σ B true bys wZ (nn σ - i)).1 b) ∧ ((∀ b, b < 6 → (rlF σ (heardF σ) i b).testBit c = false) → (wrun σ B true bys wZ (nn σ)).1 c = some B)
  | 0, _, _, c, hc => by
    have e : ∀ b, (rlF σ (heardF σ) 0 b).testBit c = decide (b = c) := fun b => by show (2 ^ b).testBit c = _; rw [Nat.testBit_two_pow]
    refine ⟨fun b _ h => ?_, fun h => ?_⟩
    · rw [e b] at h; rw [of_decide_eq_true h]; rfl
    · have := h c hc; rw [e c, decide_eq_true rfl] at this; cases this
  | i + 1, hi, hy, c, hc => by
    have ih := run_fin (B := B) hs i (by omega) (fun q h1 h2 => hy q (by omega) h2) c hc
    obtain ⟨q, hq⟩ : ∃ q, q = nn σ - 1 - i := ⟨_, rfl⟩
    have hqn : q < nn σ := by omega
    have hp := hs.2.2.2.1 q hqn
    have e1 : nn σ - i = q + 1 := by omega
    have e2 : nn σ - (i + 1) = q := by omega
    rw [e1, run_s, st_1, hears_run hqn] at ih
    rw [e2]
    have er : rlF σ (heardF σ) (i + 1) = if heardF σ q then
      (if sp' σ q < 6 then updF (updF (rlF σ (heardF σ) i) (he σ q) 0) (sp' σ q) (updF (rlF σ (heardF σ) i) (he σ q) 0 (sp' σ q) ||| rlF σ (heardF σ) i (he σ q)) else updF (rlF σ (heardF σ) i) (he σ q) 0)
      else rlF σ (heardF σ) i := by rw [hq]; rfl
    by_cases hH : heardF σ q = true
    · rw [if_pos hH] at er ih
      rw [er]
      have hsne := hp.2.2.2
      have hB := hears_run (b := B) (bys := bys) hqn
      rw [hH] at hB
      rw [hy q (by omega) hqn, nth_0 (by omega)] at ih
      by_cases h6 : sp' σ q < 6
      · rw [if_pos h6, updF_n hsne]
        have hk : (wrun σ B true bys wZ q).1 (sp' σ q) = some (saidF σ B (wrun σ B true bys wZ q) q) := by
          rcases hB_heard hp.1 hB with e | ⟨e, v, hv⟩
          · omega
          · rw [hv]; unfold saidF; rw [if_neg (by omega), hv]; rfl
        refine ⟨fun b hb h => ?_, fun h => ?_⟩
        · by_cases eb : b = sp' σ q
          · rw [eb, updF_s, Nat.testBit_or, Bool.or_eq_true] at h
            rw [eb]
            rcases h with h | h
            · rw [ih.1 (sp' σ q) (by omega) h, updF_n hsne]
            · rw [ih.1 (he σ q) (by omega) h, updF_s, hk]
          · rw [updF_n eb] at h
            by_cases eh : b = he σ q
            · rw [eh, updF_s, Nat.zero_testBit] at h; cases h
            · rw [updF_n eh] at h
              rw [ih.1 b hb h, updF_n eh]
        · refine ih.2 (fun b hb => ?_)
          have hs' := h (sp' σ q) (by omega)
          rw [updF_s, Nat.testBit_or, Bool.or_eq_false_iff] at hs'
          by_cases eb : b = sp' σ q
          · rw [eb]; exact hs'.1
          · by_cases eh : b = he σ q
            · rw [eh]; exact hs'.2
            · have := h b hb
              rw [updF_n eb, updF_n eh] at this; exact this
      · rw [if_neg h6]
        have hs6 : sp' σ q = 6 := by have := HOK_D hs q hqn hH; omega
        have hsd : saidF σ B (wrun σ B true bys wZ q) q = B := by unfold saidF; rw [if_pos hs6]
        rw [hsd] at ih
        refine ⟨fun b hb h => ?_, fun h => ?_⟩
        · by_cases eh : b = he σ q
          · rw [eh, updF_s, Nat.zero_testBit] at h; cases h
          · rw [updF_n eh] at h
            rw [ih.1 b hb h, updF_n eh]
        · by_cases hh : (rlF σ (heardF σ) i (he σ q)).testBit c = true
          · rw [ih.1 (he σ q) (by omega) hh, updF_s]
          · refine ih.2 (fun b hb => ?_)
            by_cases eh : b = he σ q
            · rw [eh]; cases hx : (rlF σ (heardF σ) i (he σ q)).testBit c; { rfl }; { exact absurd hx hh }
            · have := h b hb
              rw [updF_n eh] at this; exact this
    · have hH : heardF σ q = false := by cases hx : heardF σ q; { rfl }; { exact absurd hx hH }
      rw [hH] at er ih
      rw [er]
      exact ih
/-- what bird c says: x, if it is reached; else the bargain, if it has heard anything -/
def oc (hr R x B c : Nat) : Option Nat := if R.testBit c then some x else if hr.testBit c then some B else none
theorem hr_bit {σ : SG} {B : Nat} {bys : Nat → Nat} {c : Nat} (hc : c < 6) : (hrF σ).testBit c = ((wrun σ B true bys wZ (nn σ)).1 c).isSome := by
  have h := (run_same (σ := σ) (τ := σ) (first := true) (b := bg σ) (b' := B) (bys := di σ) (bys' := bys) rfl rfl rfl (nn σ)).2 c
  rw [h]
  unfold hrF
  rw [bw_bit _ 6 c hc]
  show decide (encC ((wD σ).1 c) ≠ -1) = ((wD σ).1 c).isSome
  cases hx : (wD σ).1 c with
  | none => exact decide_eq_false (fun z => z rfl)
  | some v => exact decide_eq_true (fun z => by have z : ((v : Nat) : Int) = -1 := z; omega)
theorem bys_p {σ : SG} {p y q : Nat} : bysF σ ((p : Nat) : Int) y q = if q = p then y else 0 := by
  unfold bysF
  rw [if_neg (by omega)]
  by_cases e : q = p
  · rw [if_pos e, if_pos (by omega)]
  · rw [if_neg e, if_neg (by omega)]
theorem out0 {σ : SG} {B : Nat} (hs : WF σ) {c : Nat} (hc : c < 6) : (wrun σ B true (bysF σ 16 0) wZ (nn σ)).1 c = oc (hrF σ) 0 0 B c := by
  have h := run_z (B := B) (bys := bysF σ 16 0) hs (nn σ) (Nat.le_refl _) (fun q hq => by unfold bysF; rw [if_neg (by omega)]; split <;> rfl) c
  have hb := hr_bit (σ := σ) (B := B) (bys := bysF σ 16 0) hc
  unfold oc
  rw [Nat.zero_testBit, if_neg (by decide), hb]
  rcases h with h | h <;> rw [h] <;> rfl
theorem rF_hr {σ : SG} (hs : WF σ) {p : Nat} (hp : p < nn σ) {c : Nat} (hc : c < 6) (h : (rF σ (heardF σ) p).testBit c = true) : (hrF σ).testBit c = true := by
  unfold rF at h
  split at h
  · rename_i hH
    have hpp := hs.2.2.2.1 p hp
    have f := (run_fin (B := 0) (bys := fun _ => 0) hs (nn σ - 1 - p) (by omega) (fun _ _ _ => rfl) c hc).1 (he σ p) (by omega) h
    rw [hr_bit (B := 0) (bys := fun _ => 0) hc, f, show nn σ - (nn σ - 1 - p) = p + 1 by omega, run_s, st_1, hears_run hp, if_pos hH, updF_s]; rfl
  · rw [Nat.zero_testBit] at h; cases h
theorem out1 {σ : SG} {B p y : Nat} (hs : WF σ) (hp : p < nn σ) (hH : heardF σ p = true) {c : Nat} (hc : c < 6) : (wrun σ B true (bysF σ ((p : Nat) : Int) y) wZ (nn σ)).1 c = oc (hrF σ) (rF σ (heardF σ) p) (nth (so σ (he σ p)) B y) B c := by
  have hpp := hs.2.2.2.1 p hp
  have f := run_fin (B := B) (bys := bysF σ ((p : Nat) : Int) y) hs (nn σ - 1 - p) (by omega) (fun q h1 h2 => by rw [bys_p, if_neg (by omega)]) c hc
  have z := run_z (B := B) (bys := bysF σ ((p : Nat) : Int) y) hs p (by omega) (fun q hq => by rw [bys_p, if_neg (by omega)])
  have hB := hears_run (b := B) (bys := bysF σ ((p : Nat) : Int) y) hp
  have hb := hr_bit (σ := σ) (B := B) (bys := bysF σ ((p : Nat) : Int) y) hc
  rw [show nn σ - (nn σ - 1 - p) = p + 1 by omega, run_s, st_1, hB, if_pos hH, bys_p, if_pos rfl, said_z hpp.1 (hB.trans hH) z] at f
  have er : rF σ (heardF σ) p = rlF σ (heardF σ) (nn σ - 1 - p) (he σ p) := by unfold rF; rw [if_pos hH]
  rw [er]
  unfold oc
  by_cases hr : (rlF σ (heardF σ) (nn σ - 1 - p) (he σ p)).testBit c = true
  · rw [if_pos hr, f.1 (he σ p) (by omega) hr, updF_s]
  · rw [if_neg hr, hb]
    have key : (wrun σ B true (bysF σ ((p : Nat) : Int) y) wZ (nn σ)).1 c = none ∨ (wrun σ B true (bysF σ ((p : Nat) : Int) y) wZ (nn σ)).1 c = some B := by
      by_cases ex : ∃ b, b < 6 ∧ (rlF σ (heardF σ) (nn σ - 1 - p) b).testBit c = true
      · obtain ⟨b, hb6, hbt⟩ := ex
        have hne : b ≠ he σ p := fun e => hr (by rw [← e]; exact hbt)
        rw [f.1 b hb6 hbt, updF_n hne]
        exact z b
      · refine Or.inr (f.2 (fun b hb6 => ?_))
        cases hx : (rlF σ (heardF σ) (nn σ - 1 - p) b).testBit c with
        | false => rfl
        | true => exact absurd ⟨b, hb6, hx⟩ ex
    rcases key with h | h <;> rw [h] <;> rfl
/-- what a history of B with one slip at most brings: whom it reaches, what comes to them -/
def isO (σ : SG) (B R x : Nat) : Prop := (R = 0 ∧ x = 0) ∨ ∃ p y, p < nn σ ∧ heardF σ p = true ∧ 1 ≤ y ∧ y ≤ slN (so σ (he σ p)) B ∧ R = rF σ (heardF σ) p ∧ x = nth (so σ (he σ p)) B y
def dbt (σ : SG) (n birds j j' : Nat) : Prop := ∃ R x R' x', isO σ (f3 n + j) R x ∧ isO σ (f3 n + j') R' x' ∧ ∀ c, c < 6 → birds.testBit c = true → oc (hrF σ) R x (f3 n + j) c = oc (hrF σ) R' x' (f3 n + j') c
theorem sl_len : ∀ n, n < 4 → ∀ j, j < p3 n → ∀ s, s < 4 → s ≠ 2 → ((slL s (f3 n + j)).all (fun x => decide (x < f3 n) || decide (f3 n + p3 n ≤ x))) = true := by decide +kernel
theorem sl_com : ∀ n, n < 4 → 1 ≤ n → ∀ j, j < p3 n → ∀ s, s < 4 → 1 ≤ s → ((slL s (f3 n + j)).any (fun x => (slL s (f3 n + (3 * (j / 3) + (j + 1) % 3))).contains x)) = true := by decide +kernel
theorem sl_two : ∀ n, n < 4 → 1 ≤ n → ∀ j, j < p3 n → (slL 2 (f3 n + j)).contains (f3 n + (3 * (j / 3) + (j + 1) % 3)) = true ∧ (slL 2 (f3 n + (3 * (j / 3) + (j + 1) % 3))).contains (f3 n + j) = true := by decide +kernel
theorem nth_mem {s v y : Nat} (h : 1 ≤ y ∧ y ≤ slN s v) : nth s v y ∈ slL s v := by
  rw [nth_in h]
  exact mem_of_at (i := y - 1) (by have : (slL s v).length = slN s v := rfl; omega) rfl
theorem mem_nth {s v x : Nat} (h : x ∈ slL s v) : ∃ y, 1 ≤ y ∧ y ≤ slN s v ∧ nth s v y = x := by
  obtain ⟨i, hi, e⟩ := List.getElem_of_mem h
  have hl : (slL s v).length = slN s v := rfl
  refine ⟨i + 1, by omega, by omega, ?_⟩
  rw [nth_in ⟨by omega, by omega⟩, Nat.add_sub_cancel]
  simp [List.getD, List.getElem?_eq_getElem hi, e]
theorem anyB_ex {f : Nat → Bool} : ∀ {k : Nat}, anyB f k = true → ∃ b, b < k ∧ f b = true
  | 0, h => by cases h
  | k + 1, h => by
    have h : (anyB f k || f k) = true := h
    rw [Bool.or_eq_true] at h
    rcases h with h | h
    · obtain ⟨b, h1, h2⟩ := anyB_ex h; exact ⟨b, by omega, h2⟩
    · exact ⟨k, by omega, h⟩
theorem so_3 {σ : SG} {h v y : Nat} (h1 : 1 ≤ y) (h2 : y ≤ slN (so σ h) v) : 1 ≤ so σ h ∧ so σ h ≤ 3 := by
  by_cases q : 1 ≤ so σ h ∧ so σ h ≤ 3
  · exact q
  · have := slN_0 (v := v) q; omega
theorem slip2 {σ : SG} {n j j' h y : Nat} (hn : n < 4) (hj : j < p3 n) (hj' : j' < p3 n) (h1 : 1 ≤ y) (h2 : y ≤ slN (so σ h) (f3 n + j)) (he : nth (so σ h) (f3 n + j) y = f3 n + j') : so σ h = 2 := by
  have hs := so_3 h1 h2
  by_cases q : so σ h = 2
  · exact q
  · have ha := List.all_eq_true.mp (sl_len n hn j hj (so σ h) (by omega) q) _ (nth_mem ⟨h1, h2⟩)
    rw [he, Bool.or_eq_true, decide_eq_true_eq, decide_eq_true_eq] at ha
    omega
theorem tell_1 {σ : SG} {n birds j j' : Nat} (hs : WF σ) (hn : n < 4) (hb : birds < 64) (ht : tlsF σ birds = true) (hj : j < p3 n) (hj' : j' < p3 n) (hne : j ≠ j') : ¬ dbt σ n birds j j' := by
  rintro ⟨R, x, R', x', hO, hO', hE⟩
  have hhr := hrF_lt σ
  have hset := and64 birds hb (hrF σ) hhr
  unfold tlsF tellsF at ht
  rw [Bool.and_eq_true, decide_eq_true_eq, Bool.not_eq_true'] at ht
  obtain ⟨ht1, ht2⟩ := ht
  have hbad : ∀ p, p < nn σ → badP (rF σ (heardF σ)) (sF σ (heardF σ)) (birds &&& hrF σ) p = false := by
    intro p hp
    cases hx : badP (rF σ (heardF σ)) (sF σ (heardF σ)) (birds &&& hrF σ) p with
    | false => rfl
    | true => rw [anyB_t hp hx] at ht2; cases ht2
  have sbit : ∀ c, (birds &&& hrF σ).testBit c = true → birds.testBit c = true ∧ (hrF σ).testBit c = true := fun c h => by rw [Nat.testBit_and, Bool.and_eq_true] at h; exact h
  -- somebody of the set is not reached
  have out : ∀ j R x, isO σ (f3 n + j) R x → ∃ c, c < 6 ∧ (birds &&& hrF σ).testBit c = true ∧ R.testBit c = false := by
    intro j R x h
    rcases h with ⟨h, _⟩ | ⟨p, y, hp, hH, y1, y2, hR, _⟩
    · by_cases ex : ∃ c, c < 6 ∧ (birds &&& hrF σ).testBit c = true
      · obtain ⟨c, h1, h2⟩ := ex
        exact ⟨c, h1, h2, by rw [h, Nat.zero_testBit]⟩
      · exfalso
        refine ht1 (eq64 hset (by omega) (fun c hc => ?_))
        rw [Nat.zero_testBit]
        cases hx : (birds &&& hrF σ).testBit c with
        | false => rfl
        | true => exact absurd ⟨c, hc, hx⟩ ex
    · by_cases ex : ∃ c, c < 6 ∧ (birds &&& hrF σ).testBit c = true ∧ R.testBit c = false
      · exact ex
      · exfalso
        have hb1 := hbad p hp
        unfold badP at hb1
        rw [Bool.or_eq_false_iff, Bool.and_eq_false_iff] at hb1
        have hsF : sF σ (heardF σ) p = so σ (he σ p) := by unfold sF; rw [if_pos hH]
        have h3 := so_3 y1 y2
        rcases hb1.1 with z | z
        · rw [hsF] at z; exact of_decide_eq_false z h3
        · refine of_decide_eq_false z ((nt0 hset (rF_lt hs hp)).mpr (fun c hc h1 => ?_))
          rw [← hR]
          cases hx : R.testBit c with
          | true => rfl
          | false => exact absurd ⟨c, hc, h1, hx⟩ ex
  obtain ⟨c, c6, cs, cR⟩ := out j R x hO
  obtain ⟨d, d6, ds, dR⟩ := out j' R' x' hO'
  have hc := hE c c6 (sbit c cs).1
  have hd := hE d d6 (sbit d ds).1
  unfold oc at hc hd
  rw [cR, (sbit c cs).2] at hc
  rw [dR, (sbit d ds).2] at hd
  have hc : some (f3 n + j) = if R'.testBit c then some x' else some (f3 n + j') := hc
  have hd : (if R.testBit d then some x else some (f3 n + j)) = some (f3 n + j') := hd
  have c1 : R'.testBit c = true ∧ x' = f3 n + j := by
    cases hx : R'.testBit c with
    | true => rw [hx] at hc; exact ⟨rfl, (Option.some.inj hc).symm⟩
    | false => rw [hx] at hc; have hc : some (f3 n + j) = some (f3 n + j') := hc; exact absurd (Option.some.inj hc) (by omega)
  have d1 : R.testBit d = true ∧ x = f3 n + j' := by
    cases hx : R.testBit d with
    | true => rw [hx] at hd; exact ⟨rfl, Option.some.inj hd⟩
    | false => rw [hx] at hd; have hd : some (f3 n + j) = some (f3 n + j') := hd; exact absurd (Option.some.inj hd) (by omega)
  rcases hO with ⟨z, _⟩ | ⟨p, y, hp, hH, y1, y2, hR, hx⟩
  · rw [z, Nat.zero_testBit] at d1; exact absurd d1.1 (by decide)
  rcases hO' with ⟨z, _⟩ | ⟨p', y', hp', hH', y1', y2', hR', hx'⟩
  · rw [z, Nat.zero_testBit] at c1; exact absurd c1.1 (by decide)
  have e2 := slip2 hn hj hj' y1 y2 (by rw [← hx]; exact d1.2)
  have e2' := slip2 hn hj' hj y1' y2' (by rw [← hx']; exact c1.2)
  have hsF : sF σ (heardF σ) p = 2 := by unfold sF; rw [if_pos hH]; exact e2
  have hsF' : sF σ (heardF σ) p' = 2 := by unfold sF; rw [if_pos hH']; exact e2'
  have hpne : p ≠ p' := fun z => by rw [hR, z, ← hR', c1.1] at cR; cases cR
  have half : ∀ a, a < 6 → (birds &&& hrF σ).testBit a = true → R'.testBit a = !(R.testBit a) := by
    intro a a6 as
    have ha := hE a a6 (sbit a as).1
    unfold oc at ha
    rw [(sbit a as).2] at ha
    cases h1 : R.testBit a <;> cases h2 : R'.testBit a
    · rw [h1, h2] at ha; have ha : some (f3 n + j) = some (f3 n + j') := ha; exact absurd (Option.some.inj ha) (by omega)
    · rfl
    · rfl
    · rw [h1, h2] at ha; have ha : some x = some x' := ha; have := Option.some.inj ha; exact absurd this (by omega)
  have fin : ∀ p p', p < nn σ → p' < p → sF σ (heardF σ) p = 2 → sF σ (heardF σ) p' = 2 → (∀ a, a < 6 → (birds &&& hrF σ).testBit a = true → (rF σ (heardF σ) p').testBit a = !((rF σ (heardF σ) p).testBit a)) → False := by
    intro p p' hp hlt s1 s2 hh
    have hb1 := hbad p hp
    unfold badP at hb1
    rw [Bool.or_eq_false_iff, s1] at hb1
    have := hb1.2
    rw [decide_eq_true rfl, Bool.true_and] at this
    unfold halfF at this
    rw [anyB_t (b := p') hlt (by rw [decide_eq_true s2, decide_eq_true ((nt_eq hset (rF_lt hs hp) (rF_lt hs (by omega))).mpr hh)]; rfl)] at this
    cases this
  rcases Nat.lt_or_gt_of_ne hpne with z | z
  · exact fin p' p hp' z hsF' hsF (fun a a6 as => by have := half a a6 as; rw [← hR, ← hR', this, Bool.not_not])
  · exact fin p p' hp z hsF hsF' (fun a a6 as => by rw [← hR, ← hR']; exact half a a6 as)
theorem tell_2 {σ : SG} {n birds j : Nat} (hs : WF σ) (h1 : 1 ≤ n) (hn : n < 4) (hb : birds < 64) (ht : tlsF σ birds = false) (hj : j < p3 n) : ∃ j', j' < p3 n ∧ j' ≠ j ∧ dbt σ n birds j j' := by
  have hhr := hrF_lt σ
  have hset := and64 birds hb (hrF σ) hhr
  have hj3 : ∃ m, p3 n = 3 * m := by
    obtain ⟨k, rfl⟩ : ∃ k, n = k + 1 := ⟨n - 1, by omega⟩
    exact ⟨p3 k, rfl⟩
  obtain ⟨m, hm⟩ := hj3
  refine ⟨3 * (j / 3) + (j + 1) % 3, by omega, by omega, ?_⟩
  have nob : ∀ c, c < 6 → birds.testBit c = true → (hrF σ).testBit c = false ∨ (birds &&& hrF σ).testBit c = true := by
    intro c _ h
    rw [Nat.testBit_and, h]
    cases (hrF σ).testBit c
    · exact Or.inl rfl
    · exact Or.inr rfl
  have non : ∀ p, p < nn σ → ∀ c, c < 6 → (hrF σ).testBit c = false → (rF σ (heardF σ) p).testBit c = false := by
    intro p hp c hc h
    cases hx : (rF σ (heardF σ) p).testBit c with
    | false => rfl
    | true => rw [rF_hr hs hp hc hx] at h; cases h
  unfold tlsF tellsF at ht
  rw [Bool.and_eq_false_iff] at ht
  rcases ht with ht | ht
  · have h0 : birds &&& hrF σ = 0 := by
      by_cases q : birds &&& hrF σ = 0
      · exact q
      · rw [decide_eq_true q] at ht; cases ht
    refine ⟨0, 0, 0, 0, Or.inl ⟨rfl, rfl⟩, Or.inl ⟨rfl, rfl⟩, fun c hc hbc => ?_⟩
    rcases nob c hc hbc with q | q
    · unfold oc; rw [Nat.zero_testBit, q]; rfl
    · rw [h0, Nat.zero_testBit] at q; cases q
  · rw [Bool.not_eq_false'] at ht
    obtain ⟨p, hp, hbp⟩ := anyB_ex ht
    unfold badP at hbp
    rw [Bool.or_eq_true] at hbp
    have heard : ∀ q, sF σ (heardF σ) q ≠ 0 → heardF σ q = true ∧ sF σ (heardF σ) q = so σ (he σ q) := by
      intro q h
      unfold sF at h ⊢
      by_cases hH : heardF σ q = true
      · rw [if_pos hH]; exact ⟨hH, rfl⟩
      · rw [if_neg hH] at h; exact absurd rfl h
    rcases hbp with hbp | hbp
    · rw [Bool.and_eq_true, decide_eq_true_eq, decide_eq_true_eq] at hbp
      obtain ⟨hs3, hnt⟩ := hbp
      obtain ⟨hH, hsF⟩ := heard p (by omega)
      rw [hsF] at hs3
      obtain ⟨x, hx, hx2⟩ := List.any_eq_true.mp (sl_com n hn h1 j hj (so σ (he σ p)) (by omega) hs3.1)
      obtain ⟨y, y1, y2, y3⟩ := mem_nth hx
      obtain ⟨y', y1', y2', y3'⟩ := mem_nth (List.contains_iff_mem.mp hx2)
      refine ⟨_, _, _, _, Or.inr ⟨p, y, hp, hH, y1, y2, rfl, rfl⟩, Or.inr ⟨p, y', hp, hH, y1', y2', rfl, rfl⟩, fun c hc hbc => ?_⟩
      rw [y3, y3']
      rcases nob c hc hbc with q | q
      · unfold oc; rw [non p hp c hc q, q]; rfl
      · unfold oc; rw [(nt0 hset (rF_lt hs hp)).mp hnt c hc q]; rfl
    · rw [Bool.and_eq_true, decide_eq_true_eq] at hbp
      obtain ⟨hs2, hhf⟩ := hbp
      unfold halfF at hhf
      obtain ⟨o, ho, hho⟩ := anyB_ex hhf
      rw [Bool.and_eq_true, decide_eq_true_eq, decide_eq_true_eq] at hho
      obtain ⟨hs2', hnt⟩ := hho
      obtain ⟨hH, hsF⟩ := heard p (by omega)
      obtain ⟨hH', hsF'⟩ := heard o (by omega)
      rw [hs2] at hsF
      rw [hs2'] at hsF'
      obtain ⟨t1, t2⟩ := sl_two n hn h1 j hj
      obtain ⟨y, y1, y2, y3⟩ := mem_nth (List.contains_iff_mem.mp t1)
      obtain ⟨y', y1', y2', y3'⟩ := mem_nth (List.contains_iff_mem.mp t2)
      refine ⟨rF σ (heardF σ) p, f3 n + (3 * (j / 3) + (j + 1) % 3), rF σ (heardF σ) o, f3 n + j, Or.inr ⟨p, y, hp, hH, y1, by rw [← hsF]; exact y2, rfl, by rw [← hsF]; exact y3.symm⟩, Or.inr ⟨o, y', by omega, hH', y1', by rw [← hsF']; exact y2', rfl, by rw [← hsF']; exact y3'.symm⟩, fun c hc hbc => ?_⟩
      rcases nob c hc hbc with q | q
      · unfold oc; rw [non p hp c hc q, non o (by omega) c hc q, q]; rfl
      · have hh := (nt_eq hset (rF_lt hs hp) (rF_lt hs (show o < nn σ by omega))).mp hnt c hc q
        have hq2 : (hrF σ).testBit c = true := by rw [Nat.testBit_and, Bool.and_eq_true] at q; exact q.2
        unfold oc
        rw [hh, hq2]
        cases (rF σ (heardF σ) p).testBit c <;> rfl
