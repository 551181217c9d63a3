theorem addN {a b : Nat} (h : a + b < 2147483648) : w32 ((a : Int) + (b : Int)) = ((a + b : Nat) : Int) := by rw [← Int.natCast_add]; exact w32_id (rI_n h)
theorem subN {a b : Nat} (h : b ≤ a) (h2 : a < 2147483648) : w32 ((a : Int) - (b : Int)) = ((a - b : Nat) : Int) := by rw [← Int.natCast_sub h]; exact w32_id (rI_n (by omega))
theorem addU_len (v : Nat) (l : List Nat) (x : Nat) : l.length ≤ (addU v l x).length := by
  unfold addU; split
  · exact Nat.le_refl _
  · simp
theorem slW_len (s v p : Nat) (l : List Nat) {a b : Nat} (h : a ≤ b) : (slW s v p l a).length ≤ (slW s v p l b).length := by
  induction b with
  | zero => rw [Nat.le_zero.mp h]; exact Nat.le_refl _
  | succ b ih =>
    by_cases e : a = b + 1
    · rw [e]; exact Nat.le_refl _
    · exact Nat.le_trans (ih (by omega)) (addU_len _ _ _)
theorem slP_len (s v : Nat) {a b : Nat} (h : a ≤ b) : (slP s v a).length ≤ (slP s v b).length := by
  induction b with
  | zero => rw [Nat.le_zero.mp h]; exact Nat.le_refl _
  | succ b ih =>
    by_cases e : a = b + 1
    · rw [e]; exact Nat.le_refl _
    · exact Nat.le_trans (ih (by omega)) (slW_len s v b (slP s v b) (a := 0) (Nat.zero_le _))
/-- the lists so far: from place b on stands l, below b what stood there -/
def SLI (h2 f g : Nat → Int) (b : Nat) (l : List Nat) : Prop := g 2 = ((b + l.length : Nat) : Int) ∧ (∀ j, j < b → f j = h2 j) ∧ ∀ i, i < l.length → f (b + i) = ((l.getD i 0 : Nat) : Int)
theorem SLI_add {h2 f g : Nat → Int} {b v x : Nat} {l : List Nat} (h : SLI h2 f g b l) (hx : ¬ (x = v ∨ x ∈ l)) : SLI h2 (updF f (b + l.length) (x : Int)) (updF g 2 ((b + l.length + 1 : Nat) : Int)) b (addU v l x) := by
  obtain ⟨h1, h3, h4⟩ := h
  have e : addU v l x = l ++ [x] := by unfold addU; rw [if_neg hx]
  rw [e]
  refine ⟨by rw [updF_s, List.length_append, List.length_singleton]; rfl, fun j hj => by rw [updF_n (by omega)]; exact h3 j hj, fun i hi => ?_⟩
  rw [List.length_append, List.length_singleton] at hi
  by_cases hl : i = l.length
  · subst hl
    rw [updF_s]
    simp [List.getD]
  · rw [updF_n (by omega), h4 i (by omega)]
    simp [List.getD, List.getElem?_append_left (show i < l.length by omega)]
theorem addU_same {v x : Nat} {l : List Nat} (hx : x = v ∨ x ∈ l) : addU v l x = l := by unfold addU; rw [if_pos hx]
theorem mem_of_at {l : List Nat} {i x : Nat} (h : i < l.length) (e : l.getD i 0 = x) : x ∈ l := by
  rw [← e]; simp [List.getD, List.getElem?_eq_getElem h]
theorem not_mem_of {l : List Nat} {x : Nat} (h : ∀ i, i < l.length → l.getD i 0 ≠ x) : x ∉ l := fun hm => by
  obtain ⟨i, hi, e⟩ := List.mem_iff_getElem.mp hm
  exact h i hi (by simp [List.getD, hi, e])
/-- the world while the table is made -/
def KS : KK := ([.inr 7, .inr 4, .inl (0, 5712), .inl (0, 1093)], up2 (up2 (fun _ _ => none) 1 0 (some 2)) 1 1 (some 3))
