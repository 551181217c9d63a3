/-! the reference's table of masked rows -/
/-- how many of the first k slots are taken -/
def cnO (f : Nat → Int) : Nat → Nat
  | 0 => 0
  | k + 1 => cnO f k + (if f k = 0 then 0 else 1)
theorem cnO_s (f : Nat → Int) (k : Nat) : cnO f (k + 1) = cnO f k + (if f k = 0 then 0 else 1) := rfl
theorem cnO_free {f : Nat → Int} : ∀ k, cnO f k < k → ∃ e, e < k ∧ f e = 0
  | 0, h => absurd h (Nat.not_lt_zero _)
  | k + 1, h => by
    rw [cnO_s] at h
    by_cases q : f k = 0
    · exact ⟨k, by omega, q⟩
    · rw [if_neg q] at h
      obtain ⟨e, h1, h2⟩ := cnO_free (f := f) k (by omega)
      exact ⟨e, by omega, h2⟩
theorem cnO_up {f : Nat → Int} {p : Nat} {x : Int} : ∀ k, cnO (updF f p x) k ≤ cnO f k + (if p < k then 1 else 0)
  | 0 => by show 0 ≤ 0 + _; omega
  | k + 1 => by
    have ih := cnO_up (f := f) (p := p) (x := x) k
    rw [cnO_s, cnO_s]
    by_cases e : k = p
    · subst e
      rw [if_neg (Nat.lt_irrefl k)] at ih
      rw [if_pos (Nat.lt_succ_self k)]
      split <;> split <;> omega
    · rw [updF_n e]
      split at ih <;> split <;> split <;> omega
theorem cnO_z (k : Nat) {f : Nat → Int} (h : ∀ j, j < k → f j = 0) : cnO f k = 0 := by
  induction k with
  | zero => rfl
  | succ k ih => rw [cnO_s, h k (by omega), if_pos rfl, ih (fun j hj => h j (by omega))]
/-- the table behind the rows below r: xs what they hold, ns whose they are -/
def TI (fr ky : Nat → Int) (xs ns : Nat → Nat) (r : Nat) : Prop :=
  (∀ p, p < 16384 → fr p ≠ 0 → ∃ i, i < r ∧ ky p = ((xs i : Nat) : Int)) ∧
  (∀ i, i < r → ∃ p, p < 16384 ∧ fr p ≠ 0 ∧ ky p = ((xs i : Nat) : Int)) ∧
  (∀ p q, p < 16384 → q < 16384 → fr p ≠ 0 → fr q ≠ 0 → ky p = ky q → p = q) ∧
  (∀ p, p < 16384 → ∃ F : Nat, fr p = ((F : Nat) : Int) ∧ F < 2 ^ 27 ∧ (F ≠ 0 → ∀ j, F.testBit j = true ↔ ∃ i, i < r ∧ ky p = ((xs i : Nat) : Int) ∧ ns i = j)) ∧
  (∀ p, p < 16384 → fr p ≠ 0 → ∃ t, p = (hNF (ky p).toNat + t) % 16384 ∧ ∀ u, u < t → fr ((hNF (ky p).toNat + u) % 16384) ≠ 0) ∧
  cnO fr 16384 ≤ r
theorem TI_0 {fr ky : Nat → Int} {xs ns : Nat → Nat} (h : ∀ j, j < 16384 → fr j = 0) : TI fr ky xs ns 0 := by
  refine ⟨fun p hp q => absurd (h p hp) q, fun i hi => absurd hi (Nat.not_lt_zero i), fun p _ hp _ q => absurd (h p hp) q, fun p hp => ⟨0, h p hp, by decide, fun q => absurd rfl q⟩, fun p hp q => absurd (h p hp) q, ?_⟩
  rw [cnO_z 16384 h]; exact Nat.le_refl 0
/-- looking for x, t slots on -/
def PB (fr ky : Nat → Int) (x t : Nat) : Prop := ∀ u, u < t → fr ((hNF x + u) % 16384) ≠ 0 ∧ ky ((hNF x + u) % 16384) ≠ (x : Nat)
theorem PB_lt {fr ky : Nat → Int} {xs ns : Nat → Nat} {r x t : Nat} (h : TI fr ky xs ns r) (hr : r < 16384) (hp : PB fr ky x t) : t < 16384 := by
  obtain ⟨e, he, hz⟩ := cnO_free 16384 (Nat.lt_of_le_of_lt h.2.2.2.2.2 hr)
  have hb := (hN_b x).1
  rcases Nat.lt_or_ge t 16384 with q | q
  · exact q
  · exfalso
    have := (hp ((e + 16384 - hNF x) % 16384) (by omega)).1
    rw [show (hNF x + (e + 16384 - hNF x) % 16384) % 16384 = e by omega] at this
    exact this hz
theorem PB_s {fr ky : Nat → Int} {x t : Nat} (hp : PB fr ky x t) (h1 : fr ((hNF x + t) % 16384) ≠ 0) (h2 : ky ((hNF x + t) % 16384) ≠ (x : Nat)) : PB fr ky x (t + 1) := by
  intro u hu
  by_cases e : u = t
  · rw [e]; exact ⟨h1, h2⟩
  · exact hp u (by omega)
theorem TI_F {fr ky : Nat → Int} {xs ns : Nat → Nat} {r p : Nat} (h : TI fr ky xs ns r) (hp : p < 16384) : ∃ F : Nat, fr p = ((F : Nat) : Int) ∧ F < 134217728 := by
  obtain ⟨F, h1, h2, _⟩ := h.2.2.2.1 p hp
  have e : 2 ^ 27 = 134217728 := by decide
  exact ⟨F, h1, by omega⟩
theorem or_bit {F k j : Nat} : (F ||| 1 * 2 ^ k).testBit j = (F.testBit j || decide (k = j)) := by rw [Nat.testBit_or, Nat.one_mul, Nat.testBit_two_pow]
theorem or_27 {F k : Nat} (hF : F < 2 ^ 27) (hk : k < 27) : F ||| 1 * 2 ^ k < 2 ^ 27 := by
  refine Nat.or_lt_two_pow hF ?_
  rw [Nat.one_mul]
  exact Nat.pow_lt_pow_right (by omega) hk
theorem or_ne {F k : Nat} : F ||| 1 * 2 ^ k ≠ 0 := by
  intro h
  have := or_bit (F := F) (k := k) (j := k)
  rw [h, Nat.zero_testBit, decide_eq_true rfl, Bool.or_true] at this
  cases this
theorem TI_s {fr ky : Nat → Int} {xs ns : Nat → Nat} {r t F : Nat} (h : TI fr ky xs ns r) (hn : ns r < 27) (hp : PB fr ky (xs r) t) (hF : fr ((hNF (xs r) + t) % 16384) = (F : Nat)) (hor : fr ((hNF (xs r) + t) % 16384) = 0 ∨ ky ((hNF (xs r) + t) % 16384) = (xs r : Nat)) :
    TI (updF fr ((hNF (xs r) + t) % 16384) ((F ||| 1 * 2 ^ ns r : Nat) : Int)) (updF ky ((hNF (xs r) + t) % 16384) ((xs r : Nat) : Int)) xs ns (r + 1) := by
  obtain ⟨t1, t2, t3, t4, t5, t6⟩ := h
  obtain ⟨p, hpe⟩ : ∃ p, p = (hNF (xs r) + t) % 16384 := ⟨_, rfl⟩
  rw [← hpe] at hF hor ⊢
  have hp16 : p < 16384 := by omega
  -- another slot doesn't hold x
  have nox : ∀ q, q < 16384 → q ≠ p → fr q ≠ 0 → ky q ≠ ((xs r : Nat) : Int) := by
    intro q hq hqp hfq hkq
    rcases hor with z | z
    · obtain ⟨t', e1, e2⟩ := t5 q hq hfq
      rw [hkq, Int.toNat_natCast] at e1 e2
      rcases Nat.lt_trichotomy t' t with c | c | c
      · have := (hp t' c).2
        rw [← e1] at this; exact this hkq
      · rw [c, ← hpe] at e1; exact hqp e1
      · have := e2 t c
        rw [← hpe] at this; exact this z
    · by_cases zf : fr p = 0
      · obtain ⟨t', e1, e2⟩ := t5 q hq hfq
        rw [hkq, Int.toNat_natCast] at e1 e2
        rcases Nat.lt_trichotomy t' t with c | c | c
        · have := (hp t' c).2
          rw [← e1] at this; exact this hkq
        · rw [c, ← hpe] at e1; exact hqp e1
        · have := e2 t c
          rw [← hpe] at this; exact this zf
      · exact hqp (t3 q p hq hp16 hfq zf (hkq.trans z.symm))
  have fne : ((F ||| 1 * 2 ^ ns r : Nat) : Int) ≠ 0 := by have := or_ne (F := F) (k := ns r); omega
  have fk : ∀ q, fr q ≠ 0 → updF fr p ((F ||| 1 * 2 ^ ns r : Nat) : Int) q ≠ 0 := by
    intro q hq
    by_cases e : q = p
    · rw [e, updF_s]; exact fne
    · rw [updF_n e]; exact hq
  refine ⟨fun q hq hfq => ?_, fun i hi => ?_, fun q q' hq hq' hf hf' he => ?_, fun q hq => ?_, fun q hq hfq => ?_, ?_⟩
  · by_cases e : q = p
    · exact ⟨r, by omega, by rw [e, updF_s]⟩
    · rw [updF_n e] at hfq ⊢
      obtain ⟨i, h1, h2⟩ := t1 q hq hfq
      exact ⟨i, by omega, h2⟩
  · by_cases e : i = r
    · subst e
      exact ⟨p, hp16, by rw [updF_s]; exact fne, updF_s⟩
    · obtain ⟨q, h1, h2, h3⟩ := t2 i (by omega)
      by_cases eq : q = p
      · refine ⟨p, hp16, by rw [updF_s]; exact fne, ?_⟩
        rw [updF_s]
        rcases hor with z | z
        · rw [eq] at h2; exact absurd z h2
        · rw [eq, z] at h3; exact h3
      · exact ⟨q, h1, by rw [updF_n eq]; exact h2, by rw [updF_n eq]; exact h3⟩
  · by_cases e : q = p
    · by_cases e' : q' = p
      · rw [e, e']
      · rw [updF_n e'] at hf' he
        rw [e, updF_s] at he
        exact absurd he.symm (nox q' hq' e' hf')
    · by_cases e' : q' = p
      · rw [updF_n e] at hf he
        rw [e', updF_s] at he
        exact absurd he (nox q hq e hf)
      · rw [updF_n e] at hf he
        rw [updF_n e'] at hf' he
        exact t3 q q' hq hq' hf hf' he
  · by_cases e : q = p
    · obtain ⟨F', g1, g2, g3⟩ := t4 p hp16
      have eF : F' = F := by rw [hF] at g1; omega
      subst eF
      refine ⟨F' ||| 1 * 2 ^ ns r, by rw [e, updF_s], or_27 g2 hn, fun _ j => ?_⟩
      rw [or_bit, Bool.or_eq_true, decide_eq_true_eq, e, updF_s]
      constructor
      · rintro (z | z)
        · have hne : F' ≠ 0 := fun w => by rw [w, Nat.zero_testBit] at z; cases z
          obtain ⟨i, h1, h2, h3⟩ := (g3 hne j).mp z
          have hk : ky p = ((xs r : Nat) : Int) := hor.resolve_left (by rw [hF]; omega)
          exact ⟨i, by omega, by rw [← hk]; exact h2, h3⟩
        · exact ⟨r, by omega, rfl, z⟩
      · rintro ⟨i, h1, h2, h3⟩
        by_cases ei : i = r
        · rw [ei] at h3; exact Or.inr h3
        · left
          obtain ⟨q2, k1, k2, k3⟩ := t2 i (by omega)
          have e2 : q2 = p := by
            by_cases z : q2 = p
            · exact z
            · exact absurd (k3.trans h2.symm) (nox q2 k1 z k2)
          rw [e2] at k2 k3
          exact (g3 (by omega) j).mpr ⟨i, by omega, k3, h3⟩
    · obtain ⟨F', g1, g2, g3⟩ := t4 q hq
      refine ⟨F', by rw [updF_n e]; exact g1, g2, fun hne j => ?_⟩
      rw [updF_n e, g3 hne j]
      constructor
      · rintro ⟨i, h1, h2, h3⟩; exact ⟨i, by omega, h2, h3⟩
      · rintro ⟨i, h1, h2, h3⟩
        by_cases ei : i = r
        · rw [ei] at h2; exact absurd h2 (nox q hq e (by rw [g1]; omega))
        · exact ⟨i, by omega, h2, h3⟩
  · by_cases e : q = p
    · rw [e, updF_s, Int.toNat_natCast]
      exact ⟨t, hpe, fun u hu => fk _ (hp u hu).1⟩
    · rw [updF_n e] at hfq ⊢
      obtain ⟨t', e1, e2⟩ := t5 q hq hfq
      exact ⟨t', e1, fun u hu => fk _ (e2 u hu)⟩
  · by_cases zf : fr p = 0
    · have := cnO_up (f := fr) (p := p) (x := ((F ||| 1 * 2 ^ ns r : Nat) : Int)) 16384
      split at this <;> omega
    · have key : ∀ k, cnO (updF fr p ((F ||| 1 * 2 ^ ns r : Nat) : Int)) k = cnO fr k := by
        intro k
        induction k with
        | zero => rfl
        | succ k ih =>
          rw [cnO_s, cnO_s, ih]
          by_cases e : k = p
          · rw [e, updF_s, if_neg fne, if_neg zf]
          · rw [updF_n e]
      rw [key]; omega
theorem pb_1x : ∀ f n, 1 ≤ pb f n → ∃ i, n.testBit i = true
  | 0, n, h => by have h : 1 ≤ 0 := h; omega
  | f + 1, n, h => by
    rw [pb_s] at h
    rcases Nat.mod_two_eq_zero_or_one n with e | e
    · obtain ⟨i, hi⟩ := pb_1x f (n / 2) (by omega)
      exact ⟨i + 1, by rw [Nat.testBit_div_two] at hi; exact hi⟩
    · exact ⟨0, by rw [Nat.testBit_zero]; exact decide_eq_true e⟩
theorem pb_2x : ∀ f n, 2 ≤ pb f n → ∃ i j, i ≠ j ∧ n.testBit i = true ∧ n.testBit j = true
  | 0, n, h => by have h : 2 ≤ 0 := h; omega
  | f + 1, n, h => by
    rw [pb_s] at h
    rcases Nat.mod_two_eq_zero_or_one n with e | e
    · obtain ⟨i, j, hij, hi, hj⟩ := pb_2x f (n / 2) (by omega)
      rw [Nat.testBit_div_two] at hi hj
      exact ⟨i + 1, j + 1, by omega, hi, hj⟩
    · obtain ⟨i, hi⟩ := pb_1x f (n / 2) (by omega)
      rw [Nat.testBit_div_two] at hi
      exact ⟨0, i + 1, by omega, by rw [Nat.testBit_zero]; exact decide_eq_true e, hi⟩
/-- the bits of all slots of more than one -/
def dvF (fr : Nat → Int) : Nat → Nat
  | 0 => 0
  | k + 1 => if 1 < pb 32 (fr k).toNat then dvF fr k ||| (fr k).toNat else dvF fr k
theorem dvF_s (fr : Nat → Int) (k : Nat) : dvF fr (k + 1) = if 1 < pb 32 (fr k).toNat then dvF fr k ||| (fr k).toNat else dvF fr k := rfl
theorem dvF_lt {fr : Nat → Int} : ∀ k, (∀ q, q < k → (fr q).toNat < 2 ^ 27) → dvF fr k < 2 ^ 27
  | 0, _ => by show 0 < 2 ^ 27; decide
  | k + 1, h => by
    have ih := dvF_lt k (fun q hq => h q (by omega))
    rw [dvF_s]
    split
    · exact Nat.or_lt_two_pow ih (h k (by omega))
    · exact ih
theorem dvF_bit {fr : Nat → Int} {j : Nat} : ∀ k, (dvF fr k).testBit j = true ↔ ∃ q, q < k ∧ 1 < pb 32 (fr q).toNat ∧ (fr q).toNat.testBit j = true
  | 0 => by
    show (0 : Nat).testBit j = true ↔ _
    rw [Nat.zero_testBit]
    constructor
    · intro h; cases h
    · rintro ⟨q, h, _⟩; exact absurd h (Nat.not_lt_zero q)
  | k + 1 => by
    have ih := dvF_bit (fr := fr) (j := j) k
    rw [dvF_s]
    by_cases c : 1 < pb 32 (fr k).toNat
    · rw [if_pos c, Nat.testBit_or, Bool.or_eq_true, ih]
      constructor
      · rintro (⟨q, h1, h2⟩ | h)
        · exact ⟨q, by omega, h2⟩
        · exact ⟨k, by omega, c, h⟩
      · rintro ⟨q, h1, h2, h3⟩
        by_cases e : q = k
        · rw [e] at h3; exact Or.inr h3
        · exact Or.inl ⟨q, by omega, h2, h3⟩
    · rw [if_neg c, ih]
      constructor
      · rintro ⟨q, h1, h2⟩; exact ⟨q, by omega, h2⟩
      · rintro ⟨q, h1, h2, h3⟩
        by_cases e : q = k
        · rw [e] at h2; exact absurd h2 c
        · exact ⟨q, by omega, h2, h3⟩
theorem TI_D {fr ky : Nat → Int} {xs ns : Nat → Nat} {r : Nat} (h : TI fr ky xs ns r) (j : Nat) (hn : ∀ i, i < r → ns i < 27) : (dvF fr 16384).testBit j = true ↔ ∃ i i', i < r ∧ i' < r ∧ ns i = j ∧ ns i' ≠ j ∧ xs i = xs i' := by
  obtain ⟨t1, t2, t3, t4, t5, t6⟩ := h
  rw [dvF_bit]
  constructor
  · rintro ⟨q, hq, h1, h2⟩
    obtain ⟨F, g1, g2, g3⟩ := t4 q hq
    rw [g1, Int.toNat_natCast] at h1 h2
    have hne : F ≠ 0 := fun w => by rw [w, Nat.zero_testBit] at h2; cases h2
    obtain ⟨i, a1, a2, a3⟩ := (g3 hne j).mp h2
    obtain ⟨b1, b2, hb, c1, c2⟩ := pb_2x 32 F (by omega)
    have : ∃ b, b ≠ j ∧ F.testBit b = true := by
      by_cases e : b1 = j
      · exact ⟨b2, fun z => hb (by rw [e, z]), c2⟩
      · exact ⟨b1, e, c1⟩
    obtain ⟨b, hbj, hbt⟩ := this
    obtain ⟨i', d1, d2, d3⟩ := (g3 hne b).mp hbt
    exact ⟨i, i', a1, d1, a3, by rw [d3]; exact hbj, by rw [a2] at d2; omega⟩
  · rintro ⟨i, i', h1, h2, h3, h4, h5⟩
    obtain ⟨q, k1, k2, k3⟩ := t2 i h1
    obtain ⟨F, g1, g2, g3⟩ := t4 q k1
    have hne : F ≠ 0 := by rw [g1] at k2; omega
    refine ⟨q, k1, ?_⟩
    rw [g1, Int.toNat_natCast]
    have c1 := (g3 hne j).mpr ⟨i, h1, k3, h3⟩
    have c2 := (g3 hne (ns i')).mpr ⟨i', h2, by rw [← h5]; exact k3, rfl⟩
    have l1 := hn i h1
    have l2 := hn i' h2
    refine ⟨?_, c1⟩
    rcases Nat.lt_or_gt_of_ne h4 with z | z
    · have := pb_2 32 F (ns i') j z (by omega) c2 c1; omega
    · have := pb_2 32 F j (ns i') z (by omega) c1 c2; omega
