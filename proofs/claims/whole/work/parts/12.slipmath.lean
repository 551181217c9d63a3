theorem addN {a b : Nat} (h : a + b < 2147483648) : w32 ((a : Int) + (b : Int)) = ((a + b : Nat) : Int) := by rw [← Int.natCast_add]; exact w32_id (rI_n h)
theorem subN {a b : Nat} (h : b ≤ a) (h2 : a < 2147483648) : w32 ((a : Int) - (b : Int)) = ((a - b : Nat) : Int) := by rw [← Int.natCast_sub h]; exact w32_id (rI_n (by omega))
theorem addU_len (v : Nat) (l : List Nat) (x : Nat) : l.length ≤ (addU v l x).length := by
  unfold addU; split
  · exact Nat.le_refl _
  · simp
theorem slW_len (s v p : Nat) (l : List Nat) {a b : Nat} (h : a ≤ b) : (slW s v p l a).length ≤ (slW s v p l b).length := by
  induction b with
  | zero => rw [Nat.le_zero.mp h]; exact Nat.le_refl _
  | succ b ih =>
    by_cases e : a = b + 1
    · rw [e]; exact Nat.le_refl _
    · exact Nat.le_trans (ih (by omega)) (addU_len _ _ _)
theorem slP_len (s v : Nat) {a b : Nat} (h : a ≤ b) : (slP s v a).length ≤ (slP s v b).length := by
  induction b with
  | zero => rw [Nat.le_zero.mp h]; exact Nat.le_refl _
  | succ b ih =>
    by_cases e : a = b + 1
    · rw [e]; exact Nat.le_refl _
    · exact Nat.le_trans (ih (by omega)) (slW_len s v b (slP s v b) (a := 0) (Nat.zero_le _))
/-- the lists so far: from place b on stands l, below b what stood there -/
def SLI (h2 f g : Nat → Int) (b : Nat) (l : List Nat) : Prop := g 2 = ((b + l.length : Nat) : Int) ∧ (∀ j, j < b → f j = h2 j) ∧ ∀ i, i < l.length → f (b + i) = ((l.getD i 0 : Nat) : Int)
theorem SLI_add {h2 f g : Nat → Int} {b v x : Nat} {l : List Nat} (h : SLI h2 f g b l) (hx : ¬ (x = v ∨ x ∈ l)) : SLI h2 (updF f (b + l.length) (x : Int)) (updF g 2 ((b + l.length + 1 : Nat) : Int)) b (addU v l x) := by
  obtain ⟨h1, h3, h4⟩ := h
  have e : addU v l x = l ++ [x] := by unfold addU; rw [if_neg hx]
  rw [e]
  refine ⟨by rw [updF_s, List.length_append, List.length_singleton]; rfl, fun j hj => by rw [updF_n (by omega)]; exact h3 j hj, fun i hi => ?_⟩
  rw [List.length_append, List.length_singleton] at hi
  by_cases hl : i = l.length
  · subst hl
    rw [updF_s]
    simp [List.getD]
  · rw [updF_n (by omega), h4 i (by omega)]
    simp [List.getD, List.getElem?_append_left (show i < l.length by omega)]
theorem addU_same {v x : Nat} {l : List Nat} (hx : x = v ∨ x ∈ l) : addU v l x = l := by unfold addU; rw [if_pos hx]
theorem mem_of_at {l : List Nat} {i x : Nat} (h : i < l.length) (e : l.getD i 0 = x) : x ∈ l := by
  rw [← e]; simp [List.getD, List.getElem?_eq_getElem h]
theorem not_mem_of {l : List Nat} {x : Nat} (h : ∀ i, i < l.length → l.getD i 0 ≠ x) : x ∉ l := fun hm => by
  obtain ⟨i, hi, e⟩ := List.mem_iff_getElem.mp hm
  exact h i hi (by simp [List.getD, hi, e])
/-- the world while the table is made -/
def KS : KK := ([.inr 7, .inr 4, .inl (0, 5712), .inl (0, 1093)], up2 (up2 (fun _ _ => none) 1 0 (some 2)) 1 1 (some 3))
def z0H : HI := fun _ _ => 0
def z0R : Nat → Nat → Option Nat := fun _ _ => none
/-- the table's rows below r stand -/
def TBI (f2 f3' g : Nat → Int) (r : Nat) : Prop := (∀ q, q ≤ r → f3' q = (stt q : Nat)) ∧ g 2 = (stt r : Nat) ∧ ∀ q, q < r → ∀ i, i < slN (q / 364 + 1) (q % 364) → f2 (stt q + i) = (((slL (q / 364 + 1) (q % 364)).getD i 0 : Nat) : Int)
/-- the whole table -/
def TB (f2 f3' : Nat → Int) : Prop := (∀ q, q ≤ 1092 → f3' q = (stt q : Nat)) ∧ ∀ q, q < 1092 → ∀ i, i < slN (q / 364 + 1) (q % 364) → f2 (stt q + i) = (((slL (q / 364 + 1) (q % 364)).getD i 0 : Nat) : Int)
theorem rc {s v : Nat} (hs : 1 ≤ s) (hv : v < 364) : ((s - 1) * 364 + v) / 364 + 1 = s ∧ ((s - 1) * 364 + v) % 364 = v := by omega
theorem stt_n {s v : Nat} (hs : 1 ≤ s) (hv : v < 364) : stt ((s - 1) * 364 + v + 1) = stt ((s - 1) * 364 + v) + slN s v := by
  show stt _ + slN _ _ = _
  rw [(rc hs hv).1, (rc hs hv).2]
set_option maxRecDepth 20000 in
theorem TBI_next {f2 f3' g f2n gn : Nat → Int} {s v : Nat} (hs : 1 ≤ s) (hv : v < 364) (h : TBI f2 f3' g ((s - 1) * 364 + v)) (hA : SLI f2 f2n gn (stt ((s - 1) * 364 + v)) (slL s v)) : TBI f2n (updF f3' ((s - 1) * 364 + v + 1) ((stt ((s - 1) * 364 + v + 1) : Nat) : Int)) gn ((s - 1) * 364 + v + 1) := by
  obtain ⟨h1, h2, h3⟩ := h
  obtain ⟨a1, a2, a3⟩ := hA
  refine ⟨fun q hq => ?_, by rw [a1, stt_n hs hv]; rfl, fun q hq i hi => ?_⟩
  · by_cases e : q = (s - 1) * 364 + v + 1
    · rw [e, updF_s]
    · rw [updF_n e]; exact h1 q (by omega)
  · by_cases e : q = (s - 1) * 364 + v
    · subst e
      rw [(rc hs hv).1, (rc hs hv).2] at hi ⊢
      exact a3 i hi
    · have hm : stt q + slN (q / 364 + 1) (q % 364) ≤ stt ((s - 1) * 364 + v) := stt_mono (show q + 1 ≤ (s - 1) * 364 + v by omega)
      rw [a2 _ (by omega)]
      exact h3 q (by omega) i hi
set_option maxRecDepth 20000 in
theorem stt_b {s v : Nat} (hs : 1 ≤ s) (hs3 : s ≤ 3) (hv : v < 364) : stt ((s - 1) * 364 + v) + slN s v ≤ 5712 := by
  rw [← stt_n hs hv, ← stt_tot]; exact stt_mono (by omega)
theorem stt_c {r : Nat} (h : r ≤ 1092) : stt r ≤ 5712 := by rw [← stt_tot]; exact stt_mono h
theorem slN_0 {s v : Nat} (h : ¬ (1 ≤ s ∧ s ≤ 3)) : slN s v = 0 := by unfold slN slL; rw [if_neg h]; rfl
theorem nth_0 {s v n : Nat} (h : ¬ (1 ≤ n ∧ n ≤ slN s v)) : nth s v n = v := by unfold nth; rw [if_neg h]
theorem nth_in {s v n : Nat} (h : 1 ≤ n ∧ n ≤ slN s v) : nth s v n = (slL s v).getD (n - 1) 0 := by unfold nth; rw [if_pos h]
theorem nth_lt {s v n : Nat} (hs : s ≤ 4) (hv : v < 364) : nth s v n < 364 := by
  by_cases h : 1 ≤ n ∧ n ≤ slN s v
  · rw [nth_in h]
    have hs3 : s < 4 := by
      rcases Nat.lt_or_ge s 4 with q | q
      · exact q
      · have := slN_0 (s := s) (v := v) (by omega); omega
    have hl : n - 1 < (slL s v).length := by have := h.2; unfold slN at this; omega
    exact sl_lt s hs3 v hv _ (mem_of_at hl rfl)
  · rw [nth_0 h]; exact hv
theorem slN_15 {s v : Nat} (hs : s ≤ 4) (hv : v < 364) : slN s v ≤ 15 := by
  rcases Nat.lt_or_ge s 4 with q | q
  · exact slN_le s q v hv
  · rw [slN_0 (by omega)]; omega
