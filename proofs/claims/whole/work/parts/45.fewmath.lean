/-! the fewest birds, from set to set -/
theorem tls_0 (σ : SG) : tlsF σ 0 = false := by
  unfold tlsF tellsF
  rw [Nat.zero_and]
  rfl
theorem fb_y {σ : SG} {k : Nat} (h : tlsF σ k = true) (h2 : fbF (tlsF σ) (k - 1) = -6 ∨ bc k < bc (fbF (tlsF σ) (k - 1)).toNat) : fbF (tlsF σ) k = ((k : Nat) : Int) := by
  cases k with
  | zero => rw [tls_0] at h; cases h
  | succ k =>
    rw [Nat.add_sub_cancel] at h2
    rw [fbF_s, if_pos ⟨h2, h⟩]
theorem fb_n {σ : SG} {k : Nat} (h2 : ¬ (fbF (tlsF σ) (k - 1) = -6 ∨ bc k < bc (fbF (tlsF σ) (k - 1)).toNat)) : fbF (tlsF σ) k = fbF (tlsF σ) (k - 1) := by
  cases k with
  | zero => rfl
  | succ k =>
    rw [Nat.add_sub_cancel] at h2 ⊢
    rw [fbF_s, if_neg (fun q => h2 q.1)]
theorem fb_d {σ : SG} {k : Nat} (h : tlsF σ k = false) : fbF (tlsF σ) k = fbF (tlsF σ) (k - 1) := by
  cases k with
  | zero => rfl
  | succ k =>
    rw [Nat.add_sub_cancel, fbF_s, if_neg (fun q => by rw [h] at q; exact absurd q.2 (by decide))]
