/-! the reference's rows -/
def KR (r : Nat → Int) (b0 : Nat) (τ : SG) : Prop := WF τ ∧ r b0 = (nn τ : Nat) ∧ r (b0 + 1) = (bg τ : Nat) ∧ r (b0 + 2) = (ra τ : Nat) ∧ (∀ b, b < 6 → r (b0 + 3 + 2 * b) = (so τ b : Nat) ∧ r (b0 + 4 + 2 * b) = encM (te τ b)) ∧ ∀ p, p < nn τ → r (b0 + 15 + 3 * p) = (sp' τ p : Nat) ∧ r (b0 + 16 + 3 * p) = (he τ p : Nat) ∧ r (b0 + 17 + 3 * p) = (di τ p : Nat)
def RMo (hi hl : HI) (G : GS) : Prop :=
  MR hi (gσ G) ∧ (hi 77 13 = (gm G : Nat) ∧ gm G ≤ 48 ∧ hi 85 = gg G ∧ ∀ i, i < gm G → 33 ≤ hi 85 i ∧ hi 85 i ≤ 126) ∧
  (hi 95 0 = b2i (gi G 0).isSome ∧ hi 95 1 = b2i (gi G 1).isSome ∧ (∀ τ, gi G 0 = some τ → KR (hi 94) 0 τ) ∧ (∀ τ, gi G 1 = some τ → KR (hi 94) 80 τ))
theorem RM_o {hi hl : HI} {σ : SG} {m : Nat} {g : Nat → Int} {im : Nat → Option SG} (h : RMo hi hl (σ, m, g, im)) : MR hi σ ∧ (hi 77 13 = (m : Nat) ∧ m ≤ 48 ∧ hi 85 = g ∧ ∀ i, i < m → 33 ≤ hi 85 i ∧ hi 85 i ≤ 126) ∧
  (hi 95 0 = b2i (im 0).isSome ∧ hi 95 1 = b2i (im 1).isSome ∧ (∀ τ, im 0 = some τ → KR (hi 94) 0 τ) ∧ (∀ τ, im 1 = some τ → KR (hi 94) 80 τ)) := h
theorem RM_i {hi hl : HI} {σ : SG} {m : Nat} {g : Nat → Int} {im : Nat → Option SG} (hC : MR hi σ) (hm : hi 77 13 = (m : Nat)) (hm2 : m ≤ 48) (hg : hi 85 = g) (hgr : ∀ i, i < m → 33 ≤ hi 85 i ∧ hi 85 i ≤ 126)
  (k0 : hi 95 0 = b2i (im 0).isSome) (k1 : hi 95 1 = b2i (im 1).isSome) (k2 : ∀ τ, im 0 = some τ → KR (hi 94) 0 τ) (k3 : ∀ τ, im 1 = some τ → KR (hi 94) 80 τ) : RMo hi hl (σ, m, g, im) := ⟨hC, ⟨hm, hm2, hg, hgr⟩, k0, k1, k2, k3⟩
/-- what the reference leaves alone -/
def FrM (hi hl hi' hl' : HI) : Prop := ∀ a, a < 77 → hi' a = hi a ∧ hl' a = hl a
theorem gr0 {hi hl : HI} : FrM hi hl hi hl := fun _ _ => ⟨rfl, rfl⟩
theorem gr1 {hi hl hi' hl' : HI} {p : Nat} {f : Nat → Int} (hp : 77 ≤ p) (h : FrM hi hl hi' hl') : FrM hi hl (upR hi' p f) hl' := fun a ha => ⟨by rw [upR_n (by omega)]; exact (h a ha).1, (h a ha).2⟩
theorem gr2 {hi hl hi' hl' : HI} {p : Nat} {f : Nat → Int} (hp : 77 ≤ p) (h : FrM hi hl hi' hl') : FrM hi hl hi' (upR hl' p f) := fun a ha => ⟨(h a ha).1, by rw [upR_n (by omega)]; exact (h a ha).2⟩
theorem gr_t {hi hl h1 l1 h2 l2 : HI} (a : FrM hi hl h1 l1) (b : FrM h1 l1 h2 l2) : FrM hi hl h2 l2 := fun x hx => ⟨(b x hx).1.trans (a x hx).1, (b x hx).2.trans (a x hx).2⟩
/-- a world whose court, pad, images are the same holds the same -/
theorem RM_up {hi hl hi' hl' : HI} {σ : SG} {m : Nat} {im : Nat → Option SG} (hC : MR hi σ) (hm : hi 77 13 = (m : Nat)) (hm2 : m ≤ 48) (hgr : ∀ i, i < m → 33 ≤ hi 85 i ∧ hi 85 i ≤ 126) (k0 : hi 95 0 = b2i (im 0).isSome) (k1 : hi 95 1 = b2i (im 1).isSome) (k2 : ∀ τ, im 0 = some τ → KR (hi 94) 0 τ) (k3 : ∀ τ, im 1 = some τ → KR (hi 94) 80 τ)
  (e8 : hi' 77 8 = hi 77 8) (e9 : hi' 77 9 = hi 77 9) (e11 : hi' 77 11 = hi 77 11) (e13 : hi' 77 13 = hi 77 13) (e80 : hi' 80 = hi 80) (e81 : hi' 81 = hi 81) (e82 : hi' 82 = hi 82) (e83 : hi' 83 = hi 83) (e84 : hi' 84 = hi 84) (e85 : hi' 85 = hi 85) (e94 : hi' 94 = hi 94) (e95 : hi' 95 = hi 95) : RMo hi' hl' (σ, m, hi 85, im) := by
  refine RM_i (MR_up hC e8 e9 e11 e80 e81 e82 e83 e84) (e13.trans hm) hm2 e85 ?_ ?_ ?_ ?_ ?_
  · rw [e85]; exact hgr
  · rw [e95]; exact k0
  · rw [e95]; exact k1
  · rw [e94]; exact k2
  · rw [e94]; exact k3
theorem pst_some {g : Nat → Int} {i m : Nat} {s : PSt} (hd : dayF g m = -6) (hE : dF g i = (-6, s)) (hi : i < m) : ∃ s', pstep (g i) s = some s' := by
  cases h : pstep (g i) s with
  | some s' => exact ⟨s', rfl⟩
  | none =>
    exfalso
    have := dayF_bad hE h hi
    omega
theorem dpart {g : Nat → Int} {m i : Nat} {s : PSt} (hd : dayF g m = -6) (hE : dF g i = (-6, s)) (hi : i < m) (hst : s.1 = 0 ∨ s.1 = 3) (hnd : s.1 = 3 → ¬ (49 ≤ g i ∧ g i ≤ 57)) :
    spOf (g i) ≠ -1 ∧ s.2.2.1 < 16 ∧ i + 1 < m ∧ (65 ≤ g (i + 1) ∧ g (i + 1) ≤ 70) ∧ dF g (i + 2) = (-6, pHear (g (i + 1)) (pBeg (g i) s)) ∧
    ((i + 2 < m ∧ 49 ≤ g (i + 2) ∧ g (i + 2) ≤ 57) → dF g (i + 3) = (-6, pDig (g (i + 2)) (pHear (g (i + 1)) (pBeg (g i) s)))) ∧
    ((pHear (g (i + 1)) (pBeg (g i) s)).1 = 0 ∨ (pHear (g (i + 1)) (pBeg (g i) s)).1 = 3) := by
  obtain ⟨s1, h1⟩ := pst_some hd hE hi
  have e1 : spOf (g i) ≠ -1 ∧ s.2.2.1 < 16 ∧ s1 = pBeg (g i) s := by
    unfold pstep at h1
    rw [if_neg (by omega), if_neg (fun q => hnd q.1 q.2)] at h1
    split at h1
    · cases h1
    · exact ⟨by omega, by omega, (Option.some.inj h1).symm⟩
  obtain ⟨c1, c2, e1⟩ := e1
  have hE1 : dF g (i + 1) = (-6, pBeg (g i) s) := dF_ok hE (by rw [h1, e1])
  have hb1 : (pBeg (g i) s).1 = 1 ∨ (pBeg (g i) s).1 = 2 := by show (if spOf (g i) = 7 then 2 else 1) = 1 ∨ (if spOf (g i) = 7 then 2 else 1) = 2; split <;> omega
  have hm1 : i + 1 < m := by
    rcases Nat.lt_or_ge (i + 1) m with q | q
    · exact q
    · exfalso
      have em : i + 1 = m := by omega
      rw [em] at hE1
      rw [dayF_mid hE1 hb1] at hd
      omega
  obtain ⟨s2, h2⟩ := pst_some hd hE1 hm1
  have e2 : (65 ≤ g (i + 1) ∧ g (i + 1) ≤ 70) ∧ s2 = pHear (g (i + 1)) (pBeg (g i) s) := by
    unfold pstep at h2
    rw [if_pos hb1] at h2
    split at h2
    · rename_i q; exact ⟨by omega, (Option.some.inj h2).symm⟩
    · cases h2
  obtain ⟨c3, e2⟩ := e2
  have hE2 : dF g (i + 2) = (-6, pHear (g (i + 1)) (pBeg (g i) s)) := dF_ok hE1 (by rw [h2, e2])
  have hb2 : (pHear (g (i + 1)) (pBeg (g i) s)).1 = 0 ∨ (pHear (g (i + 1)) (pBeg (g i) s)).1 = 3 := by show (if (pBeg (g i) s).1 = 1 then 3 else 0) = 0 ∨ (if (pBeg (g i) s).1 = 1 then 3 else 0) = 3; split <;> omega
  refine ⟨c1, c2, hm1, c3, hE2, fun q => ?_, hb2⟩
  obtain ⟨s3, h3⟩ := pst_some hd hE2 q.1
  refine dF_ok hE2 ?_
  have h3' := h3
  unfold pstep at h3
  rw [if_neg (by omega)] at h3
  rcases hb2 with z | z
  · rw [if_neg (by omega), if_pos (Or.inl (spOf_n (by omega)))] at h3
    cases h3
  · rw [if_pos ⟨z, q.2⟩] at h3
    rw [h3', ← h3]
theorem MR_days {hi : HI} {σ : SG} {g : Nat → Int} {m : Nat} {s : PSt} {A B D : Nat → Int} (h : MR hi σ) (hd : dayF g m = -6) (hE : dF g m = (-6, s)) (hA : ∀ j, j < s.2.2.1 → A j = s.2.2.2.1 j ∧ B j = s.2.2.2.2.1 j ∧ D j = s.2.2.2.2.2 j) {hi' : HI} (e8 : hi' 77 8 = (s.2.2.1 : Nat)) (e81 : hi' 81 = A) (e82 : hi' 82 = B) (e83 : hi' 83 = D) (e9 : hi' 77 9 = hi 77 9) (e11 : hi' 77 11 = hi 77 11) (e80 : hi' 80 = hi 80) (e84 : hi' 84 = hi 84) : MR hi' (dSG σ g m) := by
  obtain ⟨a1, a2, a3, a4, a5, a6, a7⟩ := dF_n hE
  obtain ⟨w1, h1, h2, h3, h4, h5, h6⟩ := h
  have es : (dF g m).2 = s := by rw [hE]
  refine ⟨WF_days w1 hd, fun b hb => ?_, fun b hb => ?_, ?_, fun p hp => ?_, ?_, ?_⟩
  · rw [e80]; exact h1 b hb
  · rw [e84]; exact h2 b hb
  · rw [e8]; show _ = (((dF g m).2.2.2.1 : Nat) : Int); rw [es]
  · have hp : p < (dF g m).2.2.2.1 := hp
    rw [es] at hp
    have h3 := a7 p hp
    rw [e81, e82, e83, (hA p hp).1, (hA p hp).2.1, (hA p hp).2.2]
    show _ = (((dF g m).2.2.2.2.1 p).toNat : Int) ∧ _ = (((dF g m).2.2.2.2.2.1 p).toNat : Int) ∧ _ = (((dF g m).2.2.2.2.2.2 p).toNat : Int)
    rw [es, Int.toNat_of_nonneg h3.1.1, Int.toNat_of_nonneg h3.2.1.1, Int.toNat_of_nonneg h3.2.2.1.1]
    exact ⟨rfl, rfl, rfl⟩
  · rw [e9]; exact h5
  · rw [e11]; exact h6
theorem MR_so {hi : HI} {σ : SG} {n w : Nat} (h : MR hi σ) (hn : n < 6) (hw : w ≤ 4) : MR (upR hi 80 (updF (hi 80) n (w : Nat))) (updF σ.1 n w, σ.2) := by
  obtain ⟨⟨w1, w2⟩, h1, h2, h3, h4, h5, h6⟩ := h
  refine ⟨⟨fun b hb => ?_, w2⟩, fun b hb => ?_, h2, h3, h4, h5, h6⟩
  · show updF σ.1 n w b ≤ 4
    by_cases e : b = n
    · rw [e, updF_s]; exact hw
    · rw [updF_n e]; exact w1 b hb
  · show updF (hi 80) n ((w : Nat) : Int) b = ((updF σ.1 n w b : Nat) : Int)
    by_cases e : b = n
    · rw [e, updF_s, updF_s]
    · rw [updF_n e, updF_n e]; exact h1 b hb
theorem MR_bg {hi hi' : HI} {σ : SG} {v : Nat} (h : MR hi σ) (hv : v < 364) (e9 : hi' 77 9 = (v : Nat)) (e8 : hi' 77 8 = hi 77 8) (e11 : hi' 77 11 = hi 77 11) (e80 : hi' 80 = hi 80) (e81 : hi' 81 = hi 81) (e82 : hi' 82 = hi 82) (e83 : hi' 83 = hi 83) (e84 : hi' 84 = hi 84) : MR hi' (setBg σ v) := by
  obtain ⟨⟨w1, w2, w3, w4, w5, w6⟩, h1, h2, h3, h4, h5, h6⟩ := h
  unfold MR
  rw [e8, e9, e11, e80, e81, e82, e83, e84]
  exact ⟨⟨w1, w2, w3, w4, hv, w6⟩, h1, h2, h3, h4, rfl, h6⟩
theorem MR_ra {hi hi' : HI} {σ : SG} {v : Nat} (h : MR hi σ) (hv : 1 ≤ v ∧ v ≤ 99) (e11 : hi' 77 11 = (v : Nat)) (e8 : hi' 77 8 = hi 77 8) (e9 : hi' 77 9 = hi 77 9) (e80 : hi' 80 = hi 80) (e81 : hi' 81 = hi 81) (e82 : hi' 82 = hi 82) (e83 : hi' 83 = hi 83) (e84 : hi' 84 = hi 84) : MR hi' (setRa σ v) := by
  obtain ⟨⟨w1, w2, w3, w4, w5, w6⟩, h1, h2, h3, h4, h5, h6⟩ := h
  unfold MR
  rw [e8, e9, e11, e80, e81, e82, e83, e84]
  exact ⟨⟨w1, w2, w3, w4, w5, hv⟩, h1, h2, h3, h4, h5, rfl⟩
theorem MR_te {hi hi' : HI} {σ : SG} {n : Nat} {o : Option Nat} {x : Int} (h : MR hi σ) (hn : n < 6) (hv : ∀ v, o = some v → v < 364) (hx : x = encM o) (e84 : hi' 84 = updF (hi 84) n x) (e8 : hi' 77 8 = hi 77 8) (e9 : hi' 77 9 = hi 77 9) (e11 : hi' 77 11 = hi 77 11) (e80 : hi' 80 = hi 80) (e81 : hi' 81 = hi 81) (e82 : hi' 82 = hi 82) (e83 : hi' 83 = hi 83) : MR hi' (setTe σ n o) := by
  obtain ⟨⟨w1, w2, w3, w4, w5, w6⟩, h1, h2, h3, h4, h5, h6⟩ := h
  unfold MR
  rw [e8, e9, e11, e80, e81, e82, e83, e84]
  refine ⟨⟨w1, fun b hb v hbv => ?_, w3, w4, w5, w6⟩, h1, fun b hb => ?_, h3, h4, h5, h6⟩
  · have hbv : updF (te σ) n o b = some v := hbv
    by_cases e : b = n
    · rw [e, updF_s] at hbv; exact hv v hbv
    · rw [updF_n e] at hbv; exact w2 b hb v hbv
  · show updF (hi 84) n x b = encM (updF (te σ) n o b)
    by_cases e : b = n
    · rw [e, updF_s, updF_s, hx]
    · rw [updF_n e, updF_n e]; exact h2 b hb
theorem MR_te0 {hi hi' : HI} {σ : SG} {n : Nat} (h : MR hi σ) (hn : n < 6) (ht : te σ n = none) (e84 : hi' 84 = updF (hi 84) n (-6)) (e8 : hi' 77 8 = hi 77 8) (e9 : hi' 77 9 = hi 77 9) (e11 : hi' 77 11 = hi 77 11) (e80 : hi' 80 = hi 80) (e81 : hi' 81 = hi 81) (e82 : hi' 82 = hi 82) (e83 : hi' 83 = hi 83) : MR hi' σ := by
  have e : updF (hi 84) n (-6) = updF (hi 84) n (encM (te σ n)) := by rw [ht]; rfl
  obtain ⟨w1, h1, h2, h3, h4, h5, h6⟩ := h
  unfold MR
  rw [e8, e9, e11, e80, e81, e82, e83, e84]
  refine ⟨w1, h1, fun b hb => ?_, h3, h4, h5, h6⟩
  by_cases q : b = n
  · rw [q, updF_s, ht]; rfl
  · rw [updF_n q]; exact h2 b hb
theorem bwM_s {o : Nat → Option Nat} {b : Nat} : bw (fun b => encC (o b)) (b + 1) = if encM (o b) < 0 then bw (fun b => encC (o b)) b else bw (fun b => encC (o b)) b ||| 1 * 2 ^ b := by
  rw [bw_s]
  cases h : o b with
  | none => rw [if_pos (show encC none = -1 from rfl), if_pos (by decide)]
  | some v => rw [if_neg (by show ¬ ((v : Nat) : Int) = -1; omega), if_neg (by show ¬ ((v : Nat) : Int) < 0; omega)]
theorem encMC {o : Option Nat} {x : Nat} : encM o ≠ (x : Nat) ↔ encC o ≠ (x : Nat) := by
  cases o with
  | none => show -6 ≠ ((x : Nat) : Int) ↔ -1 ≠ ((x : Nat) : Int); omega
  | some v => exact Iff.rfl
theorem AgS_hear {A B D : Nat → Int} {s : PSt} (c : Int) (h : ∀ j, j < s.2.2.1 → A j = s.2.2.2.1 j ∧ B j = s.2.2.2.2.1 j ∧ D j = s.2.2.2.2.2 j) : ∀ j, j < (pHear c s).2.2.1 → updF A s.2.2.1 s.2.1 j = (pHear c s).2.2.2.1 j ∧ updF B s.2.2.1 (c - 65) j = (pHear c s).2.2.2.2.1 j ∧ updF D s.2.2.1 0 j = (pHear c s).2.2.2.2.2 j :=
  (AgP_hear (P := fun _ => ((s.2.2.1 : Nat) : Int)) c ⟨rfl, h⟩).2
theorem AgS_dig {A B D : Nat → Int} {s : PSt} (c : Int) (h : ∀ j, j < s.2.2.1 → A j = s.2.2.2.1 j ∧ B j = s.2.2.2.2.1 j ∧ D j = s.2.2.2.2.2 j) : ∀ j, j < (pDig c s).2.2.1 → A j = (pDig c s).2.2.2.1 j ∧ B j = (pDig c s).2.2.2.2.1 j ∧ updF D (s.2.2.1 - 1) (c - 48) j = (pDig c s).2.2.2.2.2 j :=
  (AgP_dig (P := fun _ => ((s.2.2.1 : Nat) : Int)) c ⟨rfl, h⟩).2
def K1 (hi : HI) (b0 : Nat) (r : Nat → Int) (b : Nat) : Prop := r b0 = hi 77 8 ∧ r (b0 + 1) = hi 77 9 ∧ r (b0 + 2) = hi 77 11 ∧ (∀ c, c < b → r (b0 + 3 + 2 * c) = hi 80 c ∧ r (b0 + 4 + 2 * c) = hi 84 c) ∧ ∀ j, (j < b0 ∨ b0 + 80 ≤ j) → r j = hi 94 j
theorem K1_step {hi : HI} {b0 b : Nat} {r : Nat → Int} {x y : Int} (h : K1 hi b0 r b) (hb : b < 6) (hx : x = hi 80 b) (hy : y = hi 84 b) : K1 hi b0 (updF (updF r (b0 + 3 + 2 * b) x) (b0 + 4 + 2 * b) y) (b + 1) := by
  obtain ⟨h1, h2, h3, h4, h5⟩ := h
  refine ⟨?_, ?_, ?_, fun c hc => ?_, fun j hj => ?_⟩
  · rw [updF_n (by omega), updF_n (by omega)]; exact h1
  · rw [updF_n (by omega), updF_n (by omega)]; exact h2
  · rw [updF_n (by omega), updF_n (by omega)]; exact h3
  · by_cases e : c = b
    · subst e
      rw [updF_s, updF_n (by omega), updF_s]; exact ⟨hx, hy⟩
    · rw [updF_n (by omega), updF_n (by omega), updF_n (by omega), updF_n (by omega)]; exact h4 c (by omega)
  · rw [updF_n (by omega), updF_n (by omega)]; exact h5 j hj
def K2 (hi : HI) (b0 : Nat) (r : Nat → Int) (p : Nat) : Prop := K1 hi b0 r 6 ∧ ∀ q, q < p → r (b0 + 15 + 3 * q) = hi 81 q ∧ r (b0 + 16 + 3 * q) = hi 82 q ∧ r (b0 + 17 + 3 * q) = hi 83 q
theorem K2_step {hi : HI} {b0 p : Nat} {r : Nat → Int} {x y z : Int} (h : K2 hi b0 r p) (hp : p < 16) (hx : x = hi 81 p) (hy : y = hi 82 p) (hz : z = hi 83 p) : K2 hi b0 (updF (updF (updF r (b0 + 15 + 3 * p) x) (b0 + 16 + 3 * p) y) (b0 + 17 + 3 * p) z) (p + 1) := by
  obtain ⟨⟨h1, h2, h3, h4, h5⟩, h6⟩ := h
  refine ⟨⟨?_, ?_, ?_, fun c hc => ?_, fun j hj => ?_⟩, fun q hq => ?_⟩
  · rw [updF_n (by omega), updF_n (by omega), updF_n (by omega)]; exact h1
  · rw [updF_n (by omega), updF_n (by omega), updF_n (by omega)]; exact h2
  · rw [updF_n (by omega), updF_n (by omega), updF_n (by omega)]; exact h3
  · rw [updF_n (by omega), updF_n (by omega), updF_n (by omega), updF_n (by omega), updF_n (by omega), updF_n (by omega)]; exact h4 c hc
  · rw [updF_n (by omega), updF_n (by omega), updF_n (by omega)]; exact h5 j hj
  · by_cases e : q = p
    · subst e
      rw [updF_n (by omega), updF_n (by omega), updF_s, updF_n (by omega), updF_s, updF_s]; exact ⟨hx, hy, hz⟩
    · rw [updF_n (by omega), updF_n (by omega), updF_n (by omega), updF_n (by omega), updF_n (by omega), updF_n (by omega), updF_n (by omega), updF_n (by omega), updF_n (by omega)]; exact h6 q (by omega)
theorem K2_KR {hi : HI} {b0 : Nat} {r : Nat → Int} {σ : SG} (h : K2 hi b0 r 16) (hC : MR hi σ) : KR r b0 σ := by
  obtain ⟨⟨h1, h2, h3, h4, h5⟩, h6⟩ := h
  obtain ⟨w, m1, m2, m3, m4, m5, m6⟩ := hC
  refine ⟨w, h1.trans m3, h2.trans m5, h3.trans m6, fun b hb => ⟨(h4 b hb).1.trans (m1 b hb), (h4 b hb).2.trans (m2 b hb)⟩, fun p hp => ?_⟩
  have hn := w.2.2.1
  have := h6 p (by omega)
  exact ⟨this.1.trans (m4 p hp).1, this.2.1.trans (m4 p hp).2.1, this.2.2.trans (m4 p hp).2.2⟩
theorem pass3 {f : Nat → Int} {a b c : Int} : ∀ j, j ≠ 27 → updF (updF (updF (updF (updF (updF f 27 a) 8 (f 8)) 27 b) 9 (f 9)) 27 c) 11 (f 11) j = f j := by
  intro j hj
  by_cases e : j = 11
  · rw [e, updF_s]
  · rw [updF_n e, updF_n hj]
    by_cases e : j = 9
    · rw [e, updF_s]
    · rw [updF_n e, updF_n hj]
      by_cases e : j = 8
      · rw [e, updF_s]
      · rw [updF_n e, updF_n hj]
theorem K1_0 {hi : HI} {b0 : Nat} : K1 hi b0 (updF (updF (updF (hi 94) b0 (hi 77 8)) (b0 + 1) (hi 77 9)) (b0 + 2) (hi 77 11)) 0 := by
  refine ⟨?_, ?_, updF_s, fun c hc => absurd hc (Nat.not_lt_zero c), fun j hj => ?_⟩
  · rw [updF_n (by omega), updF_n (by omega), updF_s]
  · rw [updF_n (by omega), updF_s]
  · rw [updF_n (by omega), updF_n (by omega), updF_n (by omega)]
theorem KR_MR {hi hi' : HI} {b0 : Nat} {τ : SG} (h : KR (hi 94) b0 τ) (e8 : hi' 77 8 = hi 94 b0 ∧ hi' 77 9 = hi 94 (b0 + 1) ∧ hi' 77 11 = hi 94 (b0 + 2)) (eB : ∀ c, c < 6 → hi' 80 c = hi 94 (b0 + 3 + 2 * c) ∧ hi' 84 c = hi 94 (b0 + 4 + 2 * c)) (eP : ∀ q, q < 16 → hi' 81 q = hi 94 (b0 + 15 + 3 * q) ∧ hi' 82 q = hi 94 (b0 + 16 + 3 * q) ∧ hi' 83 q = hi 94 (b0 + 17 + 3 * q)) : MR hi' τ := by
  obtain ⟨w, h1, h2, h3, h4, h5⟩ := h
  refine ⟨w, fun b hb => (eB b hb).1.trans (h4 b hb).1, fun b hb => (eB b hb).2.trans (h4 b hb).2, e8.1.trans h1, fun p hp => ?_, e8.2.1.trans h2, e8.2.2.trans h3⟩
  have hn := w.2.2.1
  have := eP p (by omega)
  exact ⟨this.1.trans (h5 p hp).1, this.2.1.trans (h5 p hp).2.1, this.2.2.trans (h5 p hp).2.2⟩
theorem KR_x {r r' : Nat → Int} {b0 : Nat} {τ : SG} (h : KR r b0 τ) (e : ∀ j, b0 ≤ j → j < b0 + 80 → r' j = r j) : KR r' b0 τ := by
  obtain ⟨w, h1, h2, h3, h4, h5⟩ := h
  refine ⟨w, (e _ (by omega) (by omega)).trans h1, (e _ (by omega) (by omega)).trans h2, (e _ (by omega) (by omega)).trans h3, fun b hb => ⟨(e _ (by omega) (by omega)).trans (h4 b hb).1, (e _ (by omega) (by omega)).trans (h4 b hb).2⟩, fun p hp => ?_⟩
  have hn := w.2.2.1
  exact ⟨(e _ (by omega) (by omega)).trans (h5 p hp).1, (e _ (by omega) (by omega)).trans (h5 p hp).2.1, (e _ (by omega) (by omega)).trans (h5 p hp).2.2⟩
