/-! what stands on the pad -/
def sayF (g : Nat → Int) : Nat → Int
  | 0 => -6
  | k + 1 => if sayF g k ≠ -6 then sayF g k else if k < 5 ∧ 97 ≤ g k ∧ g k ≤ 99 then -6 else k
theorem sayF_s (g : Nat → Int) (k : Nat) : sayF g (k + 1) = if sayF g k ≠ -6 then sayF g k else if k < 5 ∧ 97 ≤ g k ∧ g k ≤ 99 then -6 else k := rfl
theorem sayF_bad {g : Nat → Int} {k : Nat} (h : sayF g k = -6) (hb : ¬ (k < 5 ∧ 97 ≤ g k ∧ g k ≤ 99)) : ∀ m, k < m → sayF g m = k := by
  intro m hm
  induction m with
  | zero => omega
  | succ m ih =>
    rw [sayF_s]
    by_cases e : m = k
    · subst e; rw [if_neg (by rw [h]; decide), if_neg hb]
    · have := ih (by omega); rw [if_pos (by rw [this]; omega), this]
theorem sayF_ok {g : Nat → Int} {k : Nat} (h : sayF g k = -6) (hb : k < 5 ∧ 97 ≤ g k ∧ g k ≤ 99) : sayF g (k + 1) = -6 := by rw [sayF_s, if_neg (by rw [h]; decide), if_pos hb]
theorem sayF_all {g : Nat → Int} : ∀ {m : Nat}, sayF g m = -6 → ∀ k, k < m → k < 5 ∧ 97 ≤ g k ∧ g k ≤ 99
  | 0, _, k, hk => absurd hk (Nat.not_lt_zero k)
  | m + 1, h, k, hk => by
    rw [sayF_s] at h
    by_cases h1 : sayF g m ≠ -6
    · rw [if_pos h1] at h; exact absurd h h1
    · rw [if_neg h1] at h
      by_cases h2 : m < 5 ∧ 97 ≤ g m ∧ g m ≤ 99
      · by_cases e : k = m
        · rw [e]; exact h2
        · exact sayF_all (m := m) (by omega) k (by omega)
      · rw [if_neg h2] at h; omega
theorem sayF_rng (g : Nat → Int) : ∀ m, sayF g m = -6 ∨ (0 ≤ sayF g m ∧ sayF g m < m)
  | 0 => Or.inl rfl
  | m + 1 => by
    have ih := sayF_rng g m
    rw [sayF_s]
    by_cases h1 : sayF g m ≠ -6
    · rw [if_pos h1]; omega
    · rw [if_neg h1]
      by_cases h2 : m < 5 ∧ 97 ≤ g m ∧ g m ≤ 99
      · rw [if_pos h2]; exact Or.inl rfl
      · rw [if_neg h2]; right; omega
def sayV (g : Nat → Int) : Nat → Nat
  | 0 => 0
  | k + 1 => 3 * sayV g k + (g k - 97).toNat
theorem sayV_s (g : Nat → Int) (k : Nat) : sayV g (k + 1) = 3 * sayV g k + (g k - 97).toNat := rfl
theorem sayV_lt {g : Nat → Int} : ∀ {m : Nat}, (∀ k, k < m → 97 ≤ g k ∧ g k ≤ 99) → sayV g m < p3 m
  | 0, _ => Nat.lt_succ_self 0
  | m + 1, h => by
    have ih := sayV_lt (m := m) (fun k hk => h k (by omega))
    have := h m (by omega)
    rw [sayV_s, p3_s]; omega
/-- the saying on the pad; -1: there is a fault -/
def padS (g : Nat → Int) (m : Nat) : Int := if sayF g m = -6 then ((f3 m + sayV g m : Nat) : Int) else -1
theorem sayF_5 {g : Nat → Int} {m : Nat} (h : sayF g m = -6) : m ≤ 5 := by
  rcases Nat.lt_or_ge 5 m with q | q
  · have := (sayF_all h 5 q).1; omega
  · exact q
theorem padS_lt {g : Nat → Int} {m : Nat} (h : sayF g m = -6) : f3 m + sayV g m < 364 := by
  have h5 := sayF_5 h
  have hv := sayV_lt (fun k hk => (sayF_all h k hk).2)
  have h6 := f3_mono (show m + 1 ≤ 6 by omega)
  have e6 : f3 6 = 364 := rfl
  rw [f3_s] at h6; omega
/-- days, sign by sign: what must come next (0 a part, 1 its hearer, 2 who falls silent, 3 a digit or a part), who speaks, how many parts, who speaks, hears, by which digit -/
abbrev PSt : Type := Nat × Int × Nat × (Nat → Int) × (Nat → Int) × (Nat → Int)
def spOf (c : Int) : Int := if c = 88 then 6 else if c = 109 then 7 else if 0 ≤ c - 65 ∧ c - 65 < 6 then c - 65 else -1
def pHear (c : Int) (s : PSt) : PSt := (if s.1 = 1 then 3 else 0, s.2.1, s.2.2.1 + 1, updF s.2.2.2.1 s.2.2.1 s.2.1, updF s.2.2.2.2.1 s.2.2.1 (c - 65), updF s.2.2.2.2.2 s.2.2.1 0)
def pDig (c : Int) (s : PSt) : PSt := (0, s.2.1, s.2.2.1, s.2.2.2.1, s.2.2.2.2.1, updF s.2.2.2.2.2 (s.2.2.1 - 1) (c - 48))
def pBeg (c : Int) (s : PSt) : PSt := (if spOf c = 7 then 2 else 1, spOf c, s.2.2)
def pstep (c : Int) (s : PSt) : Option PSt :=
  if s.1 = 1 ∨ s.1 = 2 then (if (0 ≤ c - 65 ∧ c - 65 < 6) ∧ c - 65 ≠ s.2.1 then some (pHear c s) else none)
  else if s.1 = 3 ∧ 49 ≤ c ∧ c ≤ 57 then some (pDig c s)
  else if spOf c = -1 ∨ 16 ≤ s.2.2.1 then none
  else some (pBeg c s)
def p0 : PSt := (0, 6, 0, fun _ => 0, fun _ => 0, fun _ => 0)
def dF (g : Nat → Int) : Nat → Int × PSt
  | 0 => (-6, p0)
  | k + 1 => if (dF g k).1 ≠ -6 then dF g k else match pstep (g k) (dF g k).2 with
    | none => ((k : Int), (dF g k).2)
    | some s => (-6, s)
theorem dF_s (g : Nat → Int) (k : Nat) : dF g (k + 1) = if (dF g k).1 ≠ -6 then dF g k else match pstep (g k) (dF g k).2 with
    | none => ((k : Int), (dF g k).2)
    | some s => (-6, s) := rfl
theorem dF_ok {g : Nat → Int} {k : Nat} {s s' : PSt} (h : dF g k = (-6, s)) (hs : pstep (g k) s = some s') : dF g (k + 1) = (-6, s') := by
  rw [dF_s, h, if_neg (by simp)]
  simp only [hs]
theorem dF_bad {g : Nat → Int} {k : Nat} {s : PSt} (h : dF g k = (-6, s)) (hs : pstep (g k) s = none) : ∀ m, k < m → (dF g m).1 = k := by
  intro m hm
  induction m with
  | zero => omega
  | succ m ih =>
    by_cases e : m = k
    · subst e
      rw [dF_s, h, if_neg (by simp)]
      simp only [hs]
    · have h2 := ih (by omega)
      rw [dF_s, if_pos (by rw [h2]; omega)]; exact h2
/-- the fault of the first m signs as days -/
def dayF (g : Nat → Int) (m : Nat) : Int := if (dF g m).1 ≠ -6 then (dF g m).1 else if (dF g m).2.1 = 1 ∨ (dF g m).2.1 = 2 then m else -6
/-- in each state: at most 16 parts, fewer when one is begun, one at least behind a hearer -/
theorem dF_n {g : Nat → Int} : ∀ {k : Nat} {s : PSt}, dF g k = (-6, s) → s.1 ≤ 3 ∧ s.2.2.1 ≤ 16 ∧ (s.1 = 1 ∨ s.1 = 2 → s.2.2.1 ≤ 15) ∧ (s.1 = 3 → 1 ≤ s.2.2.1) ∧ (s.1 = 1 → 0 ≤ s.2.1 ∧ s.2.1 ≤ 6) ∧ (s.1 = 2 → s.2.1 = 7) ∧
    (∀ j, j < s.2.2.1 → (0 ≤ s.2.2.2.1 j ∧ s.2.2.2.1 j ≤ 7) ∧ (0 ≤ s.2.2.2.2.1 j ∧ s.2.2.2.2.1 j ≤ 5) ∧ (0 ≤ s.2.2.2.2.2 j ∧ s.2.2.2.2.2 j ≤ 9) ∧ s.2.2.2.1 j ≠ s.2.2.2.2.1 j)
  | 0, s, h => by
    have := (Prod.mk.inj h).2
    subst this
    exact ⟨by decide, by decide, fun h => by simp [p0] at h, fun h => by simp [p0] at h, fun h => by simp [p0] at h, fun h => by simp [p0] at h, fun j hj => absurd hj (Nat.not_lt_zero j)⟩
  | k + 1, s, h => by
    rw [dF_s] at h
    by_cases h1 : (dF g k).1 ≠ -6
    · rw [if_pos h1] at h; rw [h] at h1; exact absurd rfl h1
    · rw [if_neg h1] at h
      have h1 : (dF g k).1 = -6 := by omega
      have h0 : dF g k = (-6, (dF g k).2) := by rw [← h1]
      obtain ⟨a1, a2, a3, a4, a5, a6, a7⟩ := dF_n (k := k) h0
      generalize (dF g k).2 = t at *
      generalize g k = c at *
      unfold pstep at h
      by_cases b1 : t.1 = 1 ∨ t.1 = 2
      · rw [if_pos b1] at h
        by_cases b2 : (0 ≤ c - 65 ∧ c - 65 < 6) ∧ c - 65 ≠ t.2.1
        · rw [if_pos b2] at h
          have e := (Prod.mk.inj h).2
          subst e
          unfold pHear
          refine ⟨by dsimp only; split <;> omega, by dsimp only; have := a3 b1; omega, fun q => by dsimp only at q; exfalso; split at q <;> omega, fun _ => by dsimp only; omega, fun q => by dsimp only at q; exfalso; split at q <;> omega, fun q => by dsimp only at q; exfalso; split at q <;> omega, fun j hj => ?_⟩
          dsimp only at hj ⊢
          by_cases ej : j = t.2.2.1
          · subst ej
            rw [updF_s, updF_s, updF_s]
            rcases b1 with q | q
            · have := a5 q; omega
            · have := a6 q; omega
          · rw [updF_n ej, updF_n ej, updF_n ej]; exact a7 j (by omega)
        · rw [if_neg b2] at h
          have e := (Prod.mk.inj h).1
          omega
      · rw [if_neg b1] at h
        by_cases b2 : t.1 = 3 ∧ 49 ≤ c ∧ c ≤ 57
        · rw [if_pos b2] at h
          have e := (Prod.mk.inj h).2
          subst e
          unfold pDig
          refine ⟨by dsimp only; omega, by dsimp only; omega, fun q => by dsimp only at q; omega, fun q => by dsimp only at q; omega, fun q => by dsimp only at q; omega, fun q => by dsimp only at q; omega, fun j hj => ?_⟩
          dsimp only at hj ⊢
          refine ⟨(a7 j hj).1, (a7 j hj).2.1, ?_, (a7 j hj).2.2.2⟩
          by_cases ej : j = t.2.2.1 - 1
          · rw [ej, updF_s]; omega
          · rw [updF_n ej]; exact (a7 j hj).2.2.1
        · rw [if_neg b2] at h
          by_cases b3 : spOf c = -1 ∨ 16 ≤ t.2.2.1
          · rw [if_pos b3] at h
            have e := (Prod.mk.inj h).1
            omega
          · rw [if_neg b3] at h
            have e := (Prod.mk.inj h).2
            subst e
            have hsp : spOf c = -1 ∨ (0 ≤ spOf c ∧ spOf c ≤ 7) := by
              unfold spOf; split
              · omega
              · split
                · omega
                · split <;> omega
            unfold pBeg
            refine ⟨by dsimp only; split <;> omega, by dsimp only; omega, fun q => by dsimp only; omega, fun q => by dsimp only at q; exfalso; split at q <;> omega, fun q => by dsimp only at q ⊢; split at q <;> omega, fun q => by dsimp only at q ⊢; split at q <;> omega, fun j hj => ?_⟩
            exact a7 j hj
theorem dayF_rng (g : Nat → Int) (m : Nat) : dayF g m = -6 ∨ (0 ≤ dayF g m ∧ dayF g m ≤ m) := by
  have key : ∀ k, (dF g k).1 = -6 ∨ (0 ≤ (dF g k).1 ∧ (dF g k).1 < k) := by
    intro k
    induction k with
    | zero => exact Or.inl rfl
    | succ k ih =>
      rw [dF_s]
      by_cases h1 : (dF g k).1 ≠ -6
      · rw [if_pos h1]; omega
      · rw [if_neg h1]
        cases pstep (g k) (dF g k).2 with
        | none => right; dsimp only; omega
        | some s => left; rfl
  have := key m
  unfold dayF
  by_cases h1 : (dF g m).1 ≠ -6
  · rw [if_pos h1]; omega
  · rw [if_neg h1]; split <;> omega
