theorem dayF_bad {g : Nat → Int} {k m : Nat} {s : PSt} (h : dF g k = (-6, s)) (hs : pstep (g k) s = none) (hk : k < m) : dayF g m = k := by
  have := dF_bad h hs m hk
  unfold dayF
  rw [this, if_pos (by omega)]
theorem dayF_mid {g : Nat → Int} {m : Nat} {s : PSt} (h : dF g m = (-6, s)) (h1 : s.1 = 1 ∨ s.1 = 2) : dayF g m = m := by
  unfold dayF
  rw [h, if_neg (by simp), if_pos h1]
theorem dayF_end {g : Nat → Int} {m : Nat} {s : PSt} (h : dF g m = (-6, s)) (h1 : ¬ (s.1 = 1 ∨ s.1 = 2)) : dayF g m = -6 := by
  unfold dayF
  rw [h, if_neg (by simp), if_neg h1]
/-- rows that hold the parts of s -/
def AgP (P A B D : Nat → Int) (s : PSt) : Prop := P 3 = (s.2.2.1 : Nat) ∧ ∀ j, j < s.2.2.1 → A j = s.2.2.2.1 j ∧ B j = s.2.2.2.2.1 j ∧ D j = s.2.2.2.2.2 j
theorem AgP_hear {P A B D : Nat → Int} {s : PSt} (c : Int) (h : AgP P A B D s) : AgP (updF P 3 ((s.2.2.1 + 1 : Nat) : Int)) (updF A s.2.2.1 s.2.1) (updF B s.2.2.1 (c - 65)) (updF D s.2.2.1 0) (pHear c s) := by
  refine ⟨updF_s, fun j hj => ?_⟩
  have hj : j < s.2.2.1 + 1 := hj
  show updF A s.2.2.1 s.2.1 j = updF s.2.2.2.1 s.2.2.1 s.2.1 j ∧ updF B s.2.2.1 (c - 65) j = updF s.2.2.2.2.1 s.2.2.1 (c - 65) j ∧ updF D s.2.2.1 0 j = updF s.2.2.2.2.2 s.2.2.1 0 j
  by_cases e : j = s.2.2.1
  · subst e; simp only [updF_s]; exact ⟨trivial, trivial, trivial⟩
  · rw [updF_n e, updF_n e, updF_n e, updF_n e, updF_n e, updF_n e]; exact h.2 j (by omega)
theorem AgP_dig {P A B D : Nat → Int} {s : PSt} (c : Int) (h : AgP P A B D s) : AgP P A B (updF D (s.2.2.1 - 1) (c - 48)) (pDig c s) := by
  refine ⟨h.1, fun j hj => ?_⟩
  have hj : j < s.2.2.1 := hj
  obtain ⟨h1, h2, h3⟩ := h.2 j hj
  refine ⟨h1, h2, ?_⟩
  show updF D (s.2.2.1 - 1) (c - 48) j = updF s.2.2.2.2.2 (s.2.2.1 - 1) (c - 48) j
  by_cases e : j = s.2.2.1 - 1
  · rw [e, updF_s, updF_s]
  · rw [updF_n e, updF_n e]; exact h3
theorem AgP_beg {P A B D : Nat → Int} {s : PSt} (c : Int) (h : AgP P A B D s) : AgP P A B D (pBeg c s) := h
