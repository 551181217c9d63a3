/-! what the reference adds up of its row 16 -/
def CW (r l : Nat → Int) (σ : SG) (L : Int) : Prop := ∀ v, v < 364 → r (364 * 16 + v) = cX σ L v ∧ (cX σ L v < 1000 → l (364 * 16 + v) = nX σ L v)
theorem CW_mk {r l : Nat → Int} {σ : SG} {L : Int} (hs : WF σ) (h : RW r l (rRec σ L (nn σ))) : CW r l σ L := by
  intro v hv
  have a := h 16 (Nat.le_refl _) v hv
  have b := cost_eq (L := L) hs v hv
  exact ⟨a.1.trans b.1, fun z => a.2.trans (b.2 z)⟩
def lcF (c : Nat → Int) (k : Nat) : Int := nvr (mnF c k)
theorem nvr_y {x : Int} (h : x < 1000) : nvr x = x := by unfold nvr; rw [if_pos h]
theorem nvr_n {x : Int} (h : ¬ x < 1000) : nvr x = -6 := by unfold nvr; rw [if_neg h]
theorem nvr_0 {x : Int} (h : 0 ≤ nvr x) : x < 1000 ∧ nvr x = x := by unfold nvr at h ⊢; split at h; { rename_i q; rw [if_pos q]; exact ⟨q, rfl⟩ }; { omega }
theorem nvr_1 {x : Int} (h : nvr x < 0) (h0 : 0 ≤ x) : ¬ x < 1000 := by unfold nvr at h; split at h <;> omega
theorem lcF_a {c : Nat → Int} {k : Nat} (hb : 0 ≤ mnF c k ∧ mnF c k ≤ 1000) (h0 : 0 ≤ c k) (h : nvr (c k) < 0) : lcF c (k + 1) = lcF c k := by
  have := nvr_1 h h0
  unfold lcF; rw [mnF_s, if_neg (by omega)]
theorem lcF_b {c : Nat → Int} {k : Nat} (hb : 0 ≤ mnF c k ∧ mnF c k ≤ 1000) (h : 0 ≤ nvr (c k)) (h2 : lcF c k < 0 ∨ nvr (c k) < lcF c k) : lcF c (k + 1) = nvr (c k) := by
  have := nvr_0 h
  unfold lcF at h2 ⊢
  rw [mnF_s]
  by_cases e : c k < mnF c k
  · rw [if_pos e]
  · rw [if_neg e]
    exfalso
    rw [nvr_y (show mnF c k < 1000 by omega)] at h2
    omega
theorem lcF_c {c : Nat → Int} {k : Nat} (h : 0 ≤ nvr (c k)) (h2 : ¬ lcF c k < 0) (h3 : lcF c k ≤ nvr (c k)) : lcF c (k + 1) = lcF c k := by
  have := nvr_0 h
  unfold lcF at h2 h3 ⊢
  have := nvr_0 (show 0 ≤ nvr (mnF c k) by omega)
  rw [mnF_s, if_neg (by omega)]
theorem lcX {σ : SG} (hs : WF σ) : (mX σ < 1000 → lcF (cX σ (-1)) 364 = mX σ) ∧ (¬ mX σ < 1000 → lcF (cX σ (-1)) 364 = -6) := ⟨fun h => nvr_y h, fun h => nvr_n h⟩
def wvF (c n : Nat → Int) (v : Nat) (m : Int) : Int := if 0 ≤ m ∧ nvr (c v) = m then n v else 0
theorem wv_eq {c : Nat → Int} {v : Nat} {m : Int} (hc : 0 ≤ c v) (hm : m < 1000) (h0 : 0 ≤ m) : nvr (c v) = m ↔ c v = m := by
  unfold nvr; split <;> omega
theorem wvX {σ : SG} (hs : WF σ) {v : Nat} (hv : v < 364) : wvF (cX σ (-1)) (nX σ (-1)) v (lcF (cX σ (-1)) 364) = wX σ v := by
  have hb := BdH_fin (L := -1) hs v hv
  have hm := mX_b hs
  unfold wvF wX
  by_cases h : mX σ < 1000
  · rw [(lcX hs).1 h]
    by_cases e : cX σ (-1) v = mX σ
    · rw [if_pos ⟨hm.1, (wv_eq hb.1 h hm.1).mpr e⟩, if_pos ⟨by omega, e⟩]
    · rw [if_neg (fun q => e ((wv_eq hb.1 h hm.1).mp q.2)), if_neg (fun q => e q.2)]
  · rw [(lcX hs).2 h, if_neg (fun q => by omega), if_neg (fun q => by omega)]
theorem ct_step {c : Nat → Int} {x : Int} {k : Nat} (hx : 0 ≤ x ∧ x < 1000) (hc : 0 ≤ c k) : ((0 ≤ nvr (c k) ∧ nvr (c k) ≤ x) → ctF c x (k + 1) = ctF c x k + 1) ∧ (¬ (0 ≤ nvr (c k) ∧ nvr (c k) ≤ x) → ctF c x (k + 1) = ctF c x k) := by
  rw [ctF_s]
  constructor
  · rintro ⟨h1, h2⟩
    have := nvr_0 h1
    rw [if_pos (by omega)]
  · intro h
    rw [if_neg, Nat.add_zero]
    intro q
    exact h (by rw [nvr_y (by omega)]; omega)
theorem ct_pos {c : Nat → Int} {x : Int} (hx : x < 1000) : ∀ k, (0 < ctF c x k ↔ mnF c k ≤ x)
  | 0 => by show 0 < 0 ↔ (1000 : Int) ≤ x; omega
  | k + 1 => by
    have ih := ct_pos (c := c) hx k
    rw [ctF_s, mnF_s]
    split <;> split <;> omega
/-- upwards: how many cost m, the first of them, their sum -/
def upN (c : Nat → Int) (m : Int) : Nat → Nat
  | 0 => 0
  | k + 1 => if c k = m then upN c m k + 1 else upN c m k
def upF (c : Nat → Int) (m : Int) : Nat → Int
  | 0 => -6
  | k + 1 => if c k = m ∧ upN c m k = 0 then (k : Nat) else upF c m k
def upS (c n : Nat → Int) (m : Int) : Nat → Int
  | 0 => 0
  | k + 1 => if c k = m then w64 (upS c n m k + n k) else upS c n m k
theorem upN_s (c : Nat → Int) (m : Int) (k : Nat) : upN c m (k + 1) = if c k = m then upN c m k + 1 else upN c m k := rfl
theorem upF_s (c : Nat → Int) (m : Int) (k : Nat) : upF c m (k + 1) = if c k = m ∧ upN c m k = 0 then ((k : Nat) : Int) else upF c m k := rfl
theorem upS_s (c n : Nat → Int) (m : Int) (k : Nat) : upS c n m (k + 1) = if c k = m then w64 (upS c n m k + n k) else upS c n m k := rfl
theorem upN_le (c : Nat → Int) (m : Int) : ∀ k, upN c m k ≤ k
  | 0 => Nat.le_refl _
  | k + 1 => by have := upN_le c m k; rw [upN_s]; split <;> omega
theorem upS_r (c n : Nat → Int) (m : Int) : ∀ k, rL (upS c n m k)
  | 0 => rL_0
  | k + 1 => by rw [upS_s]; split; { exact w64_r _ }; { exact upS_r c n m k }
theorem w64_add (a b : Int) : w64 (a + w64 b) = w64 (a + b) := by unfold w64; omega
theorem w64_add2 (a b : Int) : w64 (w64 a + b) = w64 (a + b) := by unfold w64; omega
theorem up_tl {c n : Nat → Int} {m z : Int} : ∀ i, i ≤ 364 → ((upN c m (364 - i) : Nat) : Int) + (tlF c n m z i).1 = ((upN c m 364 : Nat) : Int) ∧ w64 (upS c n m (364 - i) + (tlF c n m z i).2.2) = upS c n m 364 ∧
    (upN c m (364 - i) ≠ 0 → upF c m 364 = upF c m (364 - i)) ∧ (upN c m (364 - i) = 0 → (tlF c n m z i).1 ≠ 0 → upF c m 364 = (tlF c n m z i).2.1)
  | 0, _ => by
    refine ⟨?_, ?_, fun _ => rfl, fun _ h => absurd rfl h⟩
    · show ((upN c m 364 : Nat) : Int) + 0 = _; omega
    · show w64 (upS c n m 364 + 0) = _; rw [Int.add_zero, w64_id (upS_r c n m 364)]
  | i + 1, hi => by
    obtain ⟨h1, h2, h3, h4⟩ := up_tl (c := c) (n := n) (m := m) (z := z) i (by omega)
    have e : 364 - i = (363 - i) + 1 := by omega
    have hb := tlF_b c n m z i
    rw [e, upN_s c m (363 - i)] at h1 h3 h4
    rw [e, upS_s c n m (363 - i)] at h2
    rw [upF_s c m (363 - i)] at h3
    rw [show 364 - (i + 1) = 363 - i by omega, tlF_s]
    by_cases q : c (363 - i) = m
    · rw [if_pos q] at h1 h2 h3 h4 ⊢
      dsimp only
      refine ⟨by omega, ?_, fun z => ?_, fun z _ => ?_⟩
      · rw [w64_add, ← h2, w64_add2]; congr 1; omega
      · rw [h3 (by omega), if_neg (fun w => z w.2)]
      · rw [h3 (by omega), if_pos ⟨q, z⟩]
    · rw [if_neg q] at h1 h2 h3 h4 ⊢
      exact ⟨h1, h2, fun z => by rw [h3 z, if_neg (fun w => q w.1)], h4⟩
theorem up_X {σ : SG} (h : mX σ < 1000) : ((upN (cX σ (-1)) (mX σ) 364 : Nat) : Int) = (tX σ).1 ∧ upF (cX σ (-1)) (mX σ) 364 = (tX σ).2.1 ∧ upS (cX σ (-1)) (nX σ (-1)) (mX σ) 364 = w64 (tX σ).2.2 := by
  obtain ⟨h1, h2, h3, h4⟩ := up_tl (c := cX σ (-1)) (n := nX σ (-1)) (m := mX σ) (z := 0) 364 (Nat.le_refl _)
  have h1 : ((0 : Nat) : Int) + (tX σ).1 = _ := h1
  have h2 : w64 (0 + (tX σ).2.2) = _ := h2
  have h4 : (0 : Nat) = 0 → (tX σ).1 ≠ 0 → _ = (tX σ).2.1 := h4
  rw [Int.zero_add] at h2
  refine ⟨by omega, h4 rfl ?_, h2.symm⟩
  obtain ⟨v, hv, hv2⟩ := mnF_ex 364 h
  have key : ∀ k, v < k → 0 < upN (cX σ (-1)) (mX σ) k := by
    intro k
    induction k with
    | zero => intro z; omega
    | succ k ih =>
      intro z
      rw [upN_s]
      by_cases e : v = k
      · subst e; rw [if_pos (show cX σ (-1) v = mX σ from hv2)]; omega
      · have := ih (by omega); split <;> omega
  have := key 364 hv
  omega
theorem upS_st {c n : Nat → Int} {m : Int} {k : Nat} (hc : 0 ≤ c k) (hm : m < 1000) (h0 : 0 ≤ m) : w64 (upS c n m k + wvF c n k m) = upS c n m (k + 1) := by
  rw [upS_s]
  unfold wvF
  by_cases e : c k = m
  · rw [if_pos e, if_pos ⟨h0, (wv_eq hc hm h0).mpr e⟩]
  · rw [if_neg e, if_neg (fun q => e ((wv_eq hc hm h0).mp q.2)), Int.add_zero, w64_id (upS_r c n m k)]
theorem tg_step {σ : SG} {k : Int} {b : Nat} : (te σ b = none → k ≤ 16 → tgF σ k (b + 1) = tgF σ k b) ∧ (te σ b ≠ none → (mnF (cX σ b) 364 ≤ k → tgF σ k (b + 1) = tgF σ k b ||| 1 * 2 ^ b) ∧ (¬ mnF (cX σ b) 364 ≤ k → tgF σ k (b + 1) = tgF σ k b)) := by
  refine ⟨fun h hk => ?_, fun h => ⟨fun q => ?_, fun q => ?_⟩⟩
  · rw [tgF_s, fw_n h, if_neg (by omega)]
  · rw [tgF_s]; unfold fwF; rw [if_neg h, if_pos q]
  · rw [tgF_s]; unfold fwF; rw [if_neg h, if_neg q]
theorem hI_6 {σ : SG} : ∀ k, hI σ (-6) k = hI σ (-1) k
  | 0 => rfl
  | k + 1 => by
    cases ht : te σ k with
    | none => rw [hI_none ht, hI_none ht, hI_6 k]
    | some w => rw [hI_b ht (by omega), hI_b ht (by omega), hI_6 k]
theorem hRec_6 {σ : SG} {H : Nat → Bool} : ∀ i, hRec σ H (-6) i = hRec σ H (-1) i
  | 0 => hI_6 6
  | i + 1 => by
    show (if _ then gbH (hRec σ H (-6) i) _ _ _ else hRec σ H (-6) i) = _
    rw [hRec_6 i]; rfl
theorem hS_6 {σ : SG} : hS σ (-6) = hS σ (-1) := by unfold hS hFin; rw [hRec_6]
theorem CW_6 {r l : Nat → Int} {σ : SG} (h : CW r l σ (-6)) : CW r l σ (-1) := by
  unfold CW cX nX at h ⊢
  rw [hS_6] at h
  exact h
