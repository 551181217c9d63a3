/-! both objects over one ghost -/
theorem CR_fr {hi hi' : HI} {c : Nat} {σ : SG} (e : ∀ a, a < 77 → hi' a = hi a) (hc : c + 6 < 77) (h : CR hi c σ) : CR hi' c σ := by
  unfold CR
  rw [e c (by omega), e (c + 1) (by omega), e (c + 2) (by omega), e (c + 3) (by omega), e (c + 4) (by omega), e (c + 5) (by omega), e (c + 6) (by omega)]
  exact h
theorem RC_fr {hi hl hi' hl' : HI} {G : GS} (f : FrM hi hl hi' hl') (h : RC hi hl G) : RC hi' hl' G := by
  obtain ⟨σ, m, g, im⟩ := G
  have e : ∀ a, a < 77 → hi' a = hi a := fun a ha => (f a ha).1
  have el : ∀ a, a < 77 → hl' a = hl a := fun a ha => (f a ha).2
  obtain ⟨h1, h2, ⟨h3, h4, h5, h6⟩, ⟨h7, h8, h9, h10⟩, h11, h12⟩ := RC_o h
  refine RC_i ?_ (CR_fr e (by omega) h2) ?_ h4 ?_ ?_ ?_ ?_ (fun τ ht => CR_fr e (by omega) (h9 τ ht)) (fun τ ht => CR_fr e (by omega) (h10 τ ht)) ?_ ?_
  · rw [e 2 (by omega), e 3 (by omega)]; exact h1
  · rw [e 4 (by omega)]; exact h3
  · rw [e 5 (by omega)]; exact h5
  · rw [e 5 (by omega)]; exact h6
  · rw [e 32 (by omega)]; exact h7
  · rw [e 32 (by omega)]; exact h8
  · rw [e 0 (by omega), e 44 (by omega), e 36 (by omega), el 52 (by omega), el 36 (by omega)]; exact h11
  · rw [e 0 (by omega), e 72 (by omega)]; exact h12
theorem RM_fr {hi hl hi' hl' : HI} {G : GS} (f : FrC hi hl hi' hl') (h : RMo hi hl G) : RMo hi' hl' G := by
  obtain ⟨σ, m, g, im⟩ := G
  have e : ∀ a, 77 ≤ a → hi' a = hi a := fun a ha => (f a ha).1
  obtain ⟨hC, ⟨hm, hm2, hg5, hgr⟩, k0, k1, k2, k3⟩ := RM_o h
  have hx := RM_up (hl := hl) (hi' := hi') (hl' := hl') hC hm hm2 hgr k0 k1 k2 k3 (by rw [e 77 (by omega)]) (by rw [e 77 (by omega)]) (by rw [e 77 (by omega)]) (by rw [e 77 (by omega)]) (e 80 (by omega)) (e 81 (by omega)) (e 82 (by omega)) (e 83 (by omega)) (e 84 (by omega)) (e 85 (by omega)) (e 94 (by omega)) (e 95 (by omega))
  rw [hg5] at hx
  exact hx
/-- the beginning -/
def σ0 : SG := (fun _ => 0, fun _ => 0, fun _ => 0, fun _ => 0, 0, 0, 40, fun _ => none)
theorem WF_0 : WF σ0 := ⟨fun b _ => by show 0 ≤ 4; omega, fun b _ v h => (by cases h), by show 0 ≤ 16; omega, fun p h => absurd h (Nat.not_lt_zero p), by show 0 < 364; omega, by show 1 ≤ 40; omega, by show 40 ≤ 99; omega⟩
theorem RC_0 {hi hl : HI} (h : InitC hi) : RC hi hl (σ0, 0, fun _ => 0, fun _ => none) := by
  obtain ⟨h1, h2, h3, h4, h5, h6, h7, h8, h9, h10, h11, h12⟩ := h
  refine RC_i h1 ⟨WF_0, fun b _ => h3 b, fun b hb => h4 b hb, h5, fun p hp => absurd hp (Nat.not_lt_zero p), h6, h7⟩ h2 (by omega) h12 (fun i hi' => absurd hi' (Nat.not_lt_zero i)) h8 h9 (fun τ ht => by cases ht) (fun τ ht => by cases ht) (Or.inl h10) (Or.inl h11)
theorem RM_0 {hi hl : HI} (h84 : ∀ b, b < 6 → hi 84 b = -6) (h : hi 77 11 = 40 ∧ hi 77 8 = 0 ∧ hi 77 9 = 0 ∧ hi 77 13 = 0 ∧ (∀ b, hi 80 b = 0) ∧ (∀ b, hi 85 b = 0) ∧ hi 95 0 = 0 ∧ hi 95 1 = 0) : RMo hi hl (σ0, 0, fun _ => 0, fun _ => none) := by
  obtain ⟨h1, h2, h3, h4, h5, h6, h7, h8⟩ := h
  exact RM_i ⟨WF_0, fun b _ => h5 b, fun b hb => h84 b hb, h2, fun p hp => absurd hp (Nat.not_lt_zero p), h3, h1⟩ h4 (by omega) (funext h6) (fun i hi' => absurd hi' (Nat.not_lt_zero i)) h7 h8 (fun τ ht => by cases ht) (fun τ ht => by cases ht)
abbrev eL_law : EV := (yL_law, cL_law, 4, some .boolean, room_1)
def QL : QT := fun r _ _ _ => r = some (vI 1)
