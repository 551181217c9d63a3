/-! the reference's rows of what comes to whom -/
def sNF (σ : SG) (B p : Nat) : Nat := if heardF σ p = true then slN (so σ (he σ p)) B else 0
def roF (σ : SG) (B R x : Nat) : Nat := rkF (oc (hrF σ) R x B)
def RP (l r : Nat → Int) (cnt : Nat) (M : Nat → Nat → Prop) : Prop := (∀ i, i < cnt → ∃ x j, l i = ((x : Nat) : Int) ∧ r i = ((j : Nat) : Int) ∧ M x j) ∧ ∀ x j, M x j → ∃ i, i < cnt ∧ l i = ((x : Nat) : Int) ∧ r i = ((j : Nat) : Int)
theorem RP_iff {l r : Nat → Int} {cnt : Nat} {M M' : Nat → Nat → Prop} (h : RP l r cnt M) (e : ∀ x j, M' x j ↔ M x j) : RP l r cnt M' := by
  refine ⟨fun i hi => ?_, fun x j hm => h.2 x j ((e x j).mp hm)⟩
  obtain ⟨x, j, h1, h2, h3⟩ := h.1 i hi
  exact ⟨x, j, h1, h2, (e x j).mpr h3⟩
theorem RP_add {l r : Nat → Int} {cnt X N : Nat} {M M' : Nat → Nat → Prop} (h : RP l r cnt M) (e : ∀ x j, M' x j ↔ (M x j ∨ (x = X ∧ j = N))) : RP (updF l cnt ((X : Nat) : Int)) (updF r cnt ((N : Nat) : Int)) (cnt + 1) M' := by
  refine ⟨fun i hi => ?_, fun x j hm => ?_⟩
  · by_cases q : i = cnt
    · exact ⟨X, N, by rw [q, updF_s], by rw [q, updF_s], (e X N).mpr (Or.inr ⟨rfl, rfl⟩)⟩
    · obtain ⟨x, j, h1, h2, h3⟩ := h.1 i (by omega)
      exact ⟨x, j, by rw [updF_n q]; exact h1, by rw [updF_n q]; exact h2, (e x j).mpr (Or.inl h3)⟩
  · rcases (e x j).mp hm with z | z
    · obtain ⟨i, h1, h2, h3⟩ := h.2 x j z
      exact ⟨i, by omega, by rw [updF_n (by omega)]; exact h2, by rw [updF_n (by omega)]; exact h3⟩
    · exact ⟨cnt, by omega, by rw [updF_s, z.1], by rw [updF_s, z.2]⟩
def PtF (σ : SG) (B P Y x : Nat) : Prop := x = roF σ B 0 0 ∨ ∃ p y, p < nn σ ∧ heardF σ p = true ∧ 1 ≤ y ∧ y ≤ slN (so σ (he σ p)) B ∧ (p < P ∨ (p = P ∧ y < Y)) ∧ x = roF σ B (rF σ (heardF σ) p) (nth (so σ (he σ p)) B y)
def FlF (σ : SG) (B x : Nat) : Prop := ∃ R y, isO σ B R y ∧ x = roF σ B R y
def MPF (σ : SG) (n J P Y x j : Nat) : Prop := (j < J ∧ FlF σ (f3 n + j) x) ∨ (j = J ∧ PtF σ (f3 n + J) P Y x)
def MJF (σ : SG) (n J x j : Nat) : Prop := j < J ∧ FlF σ (f3 n + j) x
theorem MJ_0 {σ : SG} {n : Nat} {l r : Nat → Int} : RP l r 0 (MJF σ n 0) := ⟨fun i hi => absurd hi (Nat.not_lt_zero i), fun x j h => absurd h.1 (Nat.not_lt_zero j)⟩
theorem MP_in {σ : SG} {n J x j : Nat} : MPF σ n J 0 1 x j ↔ (MJF σ n J x j ∨ (x = roF σ (f3 n + J) 0 0 ∧ j = J)) := by
  constructor
  · rintro (h | ⟨h1, h2 | ⟨p, y, _, _, h3, _, h4, _⟩⟩)
    · exact Or.inl h
    · exact Or.inr ⟨h2, h1⟩
    · omega
  · rintro (h | ⟨h1, h2⟩)
    · exact Or.inl h
    · exact Or.inr ⟨h2, Or.inl h1⟩
theorem MP_y {σ : SG} {n J P Y x j : Nat} (hP : P < nn σ) (hY : 1 ≤ Y) (hs : Y ≤ sNF σ (f3 n + J) P) : MPF σ n J P (Y + 1) x j ↔ (MPF σ n J P Y x j ∨ (x = roF σ (f3 n + J) (rF σ (heardF σ) P) (nth (so σ (he σ P)) (f3 n + J) Y) ∧ j = J)) := by
  have hH : heardF σ P = true ∧ Y ≤ slN (so σ (he σ P)) (f3 n + J) := by
    unfold sNF at hs
    split at hs
    · rename_i q; exact ⟨q, hs⟩
    · omega
  constructor
  · rintro (h | ⟨h1, h2 | ⟨p, y, a1, a2, a3, a4, a5, a6⟩⟩)
    · exact Or.inl (Or.inl h)
    · exact Or.inl (Or.inr ⟨h1, Or.inl h2⟩)
    · by_cases q : p = P ∧ y = Y
      · rw [q.1, q.2] at a6; exact Or.inr ⟨a6, h1⟩
      · exact Or.inl (Or.inr ⟨h1, Or.inr ⟨p, y, a1, a2, a3, a4, by omega, a6⟩⟩)
  · rintro ((h | ⟨h1, h2 | ⟨p, y, a1, a2, a3, a4, a5, a6⟩⟩) | ⟨h1, h2⟩)
    · exact Or.inl h
    · exact Or.inr ⟨h1, Or.inl h2⟩
    · exact Or.inr ⟨h1, Or.inr ⟨p, y, a1, a2, a3, a4, by omega, a6⟩⟩
    · exact Or.inr ⟨h2, Or.inr ⟨P, Y, hP, hH.1, hY, hH.2, by omega, h1⟩⟩
theorem MP_no {σ : SG} {n J P Y x j : Nat} (hs : ¬ Y ≤ sNF σ (f3 n + J) P) : MPF σ n J P (Y + 1) x j ↔ MPF σ n J P Y x j := by
  constructor
  · rintro (h | ⟨h1, h2 | ⟨p, y, a1, a2, a3, a4, a5, a6⟩⟩)
    · exact Or.inl h
    · exact Or.inr ⟨h1, Or.inl h2⟩
    · refine Or.inr ⟨h1, Or.inr ⟨p, y, a1, a2, a3, a4, ?_, a6⟩⟩
      by_cases q : p = P ∧ y = Y
      · exfalso
        unfold sNF at hs
        rw [if_pos (by rw [← q.1]; exact a2), ← q.1, ← q.2] at hs
        exact hs a4
      · omega
  · rintro (h | ⟨h1, h2 | ⟨p, y, a1, a2, a3, a4, a5, a6⟩⟩)
    · exact Or.inl h
    · exact Or.inr ⟨h1, Or.inl h2⟩
    · exact Or.inr ⟨h1, Or.inr ⟨p, y, a1, a2, a3, a4, by omega, a6⟩⟩
theorem MP_next {σ : SG} {n J P Y x j : Nat} (hs : sNF σ (f3 n + J) P < Y) : MPF σ n J (P + 1) 1 x j ↔ MPF σ n J P Y x j := by
  constructor
  · rintro (h | ⟨h1, h2 | ⟨p, y, a1, a2, a3, a4, a5, a6⟩⟩)
    · exact Or.inl h
    · exact Or.inr ⟨h1, Or.inl h2⟩
    · refine Or.inr ⟨h1, Or.inr ⟨p, y, a1, a2, a3, a4, ?_, a6⟩⟩
      by_cases q : p = P
      · right
        unfold sNF at hs
        rw [if_pos (by rw [← q]; exact a2), ← q] at hs
        exact ⟨q, by omega⟩
      · left; omega
  · rintro (h | ⟨h1, h2 | ⟨p, y, a1, a2, a3, a4, a5, a6⟩⟩)
    · exact Or.inl h
    · exact Or.inr ⟨h1, Or.inl h2⟩
    · exact Or.inr ⟨h1, Or.inr ⟨p, y, a1, a2, a3, a4, by omega, a6⟩⟩
theorem MP_out {σ : SG} {n J x j : Nat} : MJF σ n (J + 1) x j ↔ MPF σ n J (nn σ) 1 x j := by
  constructor
  · rintro ⟨h1, h2⟩
    by_cases q : j = J
    · right
      refine ⟨q, ?_⟩
      obtain ⟨R, y, hO, hx⟩ := h2
      rw [q] at hO hx
      rcases hO with ⟨e1, e2⟩ | ⟨p, y', a1, a2, a3, a4, a5, a6⟩
      · left; rw [hx, e1, e2]
      · exact Or.inr ⟨p, y', a1, a2, a3, a4, Or.inl a1, by rw [hx, a5, a6]⟩
    · exact Or.inl ⟨by omega, h2⟩
  · rintro (⟨h1, h2⟩ | ⟨h1, h2 | ⟨p, y, a1, a2, a3, a4, a5, a6⟩⟩)
    · exact ⟨by omega, h2⟩
    · exact ⟨by omega, 0, 0, Or.inl ⟨rfl, rfl⟩, by rw [h1]; exact h2⟩
    · exact ⟨by omega, _, _, Or.inr ⟨p, y, a1, a2, a3, by rw [h1]; exact a4, rfl, rfl⟩, by rw [h1]; exact a6⟩
theorem row0 {σ : SG} {B : Nat} (hs : WF σ) : rkF (wrun σ B true (bysF σ 16 0) wZ (nn σ)).1 = roF σ B 0 0 := rk_congr (fun c hc => out0 hs hc)
theorem row1 {σ : SG} {B P Y : Nat} (hs : WF σ) (hP : P < nn σ) (hY : 1 ≤ Y) (h : Y ≤ sNF σ B P) : rkF (wrun σ B true (bysF σ ((P : Nat) : Int) Y) wZ (nn σ)).1 = roF σ B (rF σ (heardF σ) P) (nth (so σ (he σ P)) B Y) := by
  refine rk_congr (fun c hc => out1 hs hP ?_ hc)
  unfold sNF at h
  split at h
  · assumption
  · omega
theorem sN_15 {σ : SG} {B p : Nat} (hs : WF σ) (hB : B < 364) (hp : p < nn σ) : sNF σ B p ≤ 15 := by
  unfold sNF
  split
  · exact slN_15 (hs.1 _ (by have := hs.2.2.2.1 p hp; omega)) hB
  · omega
theorem isO_lt {σ : SG} {B R x : Nat} (hs : WF σ) (hB : B < 364) (h : isO σ B R x) : x < 364 := by
  rcases h with ⟨_, h⟩ | ⟨p, y, hp, _, _, _, _, h⟩
  · omega
  · rw [h]; exact nth_lt (hs.1 _ (by have := hs.2.2.2.1 p hp; omega)) hB
theorem oc_lt {hr R x B : Nat} (hB : B < 364) (hx : x < 364) (c : Nat) : ∀ v, oc hr R x B c = some v → v < 364 := by
  intro v hv
  unfold oc at hv
  split at hv
  · cases hv; exact hx
  · split at hv
    · cases hv; exact hB
    · cases hv
def xsF (X : Nat → Nat) (birds i : Nat) : Nat := X i &&& mkF birds
theorem xs_lt (X : Nat → Nat) (birds i : Nat) : xsF X birds i < 18014398509481984 := Nat.lt_of_le_of_lt Nat.and_le_right (mk_lt birds)
theorem n40 {n j : Nat} (hn : n < 4) (hj : j < p3 n) : f3 n + j < 364 ∧ p3 n ≤ 27 := by
  have h := f3_s n
  have h2 := f3_mono (show n + 1 ≤ 4 by omega)
  have h3 : f3 4 = 40 := rfl
  rcases (show n = 0 ∨ n = 1 ∨ n = 2 ∨ n = 3 by omega) with e | e | e | e <;> subst e <;> refine ⟨by omega, by decide⟩
/-- what the table says of all rows: all bargains are in doubt, or none is -/
theorem D_all {σ : SG} {n birds cnt D : Nat} {l r : Nat → Int} {X ns : Nat → Nat} (hs : WF σ) (h1 : 1 ≤ n) (hn : n < 4) (hb : birds < 64) (hR : RP l r cnt (MJF σ n (p3 n))) (hX : ∀ i, i < cnt → l i = ((X i : Nat) : Int) ∧ r i = ((ns i : Nat) : Int))
    (hD : ∀ j, D.testBit j = true ↔ ∃ i i', i < cnt ∧ i' < cnt ∧ ns i = j ∧ ns i' ≠ j ∧ xsF X birds i = xsF X birds i') : (tlsF σ birds = true → D = 0) ∧ (tlsF σ birds = false → D = 2 ^ p3 n - 1) := by
  have key : ∀ j, D.testBit j = true ↔ (j < p3 n ∧ ∃ j', j' < p3 n ∧ j' ≠ j ∧ dbt σ n birds j j') := by
    intro j
    rw [hD j]
    constructor
    · rintro ⟨i, i', hi, hi', e1, e2, e3⟩
      obtain ⟨x, a, b1, b2, b3, R, y, b4, b5⟩ := hR.1 i hi
      obtain ⟨x', a', c1, c2, c3, R', y', c4, c5⟩ := hR.1 i' hi'
      have ea : a = j := by have := (hX i hi).2; omega
      have ea' : a' = ns i' := by have := (hX i' hi').2; omega
      have ex : x = X i := by have := (hX i hi).1; omega
      have ex' : x' = X i' := by have := (hX i' hi').1; omega
      subst ea
      have nB := (n40 hn b3).1
      have nB' := (n40 hn c3).1
      refine ⟨b3, a', c3, by omega, R, y, R', y', b4, c4, ?_⟩
      have hm : roF σ (f3 n + a) R y &&& mkF birds = roF σ (f3 n + a') R' y' &&& mkF birds := by
        rw [← b5, ← c5, ex, ex']; exact e3
      exact (mask_eq (fun c _ => oc_lt nB (isO_lt hs nB b4) c) (fun c _ => oc_lt nB' (isO_lt hs nB' c4) c)).mp hm
    · rintro ⟨hj, j', hj', hne, R, y, R', y', hO, hO', hE⟩
      have nB := (n40 hn hj).1
      have nB' := (n40 hn hj').1
      obtain ⟨i, a1, a2, a3⟩ := hR.2 _ j ⟨hj, R, y, hO, rfl⟩
      obtain ⟨i', c1, c2, c3⟩ := hR.2 _ j' ⟨hj', R', y', hO', rfl⟩
      have ea : X i = roF σ (f3 n + j) R y := by have := (hX i a1).1; omega
      have ea' : X i' = roF σ (f3 n + j') R' y' := by have := (hX i' c1).1; omega
      refine ⟨i, i', a1, c1, by have := (hX i a1).2; omega, by have := (hX i' c1).2; omega, ?_⟩
      unfold xsF
      rw [ea, ea']
      exact (mask_eq (fun c _ => oc_lt nB (isO_lt hs nB hO) c) (fun c _ => oc_lt nB' (isO_lt hs nB' hO') c)).mpr hE
  constructor
  · intro ht
    apply Nat.eq_of_testBit_eq
    intro j
    rw [Nat.zero_testBit]
    cases hx : D.testBit j with
    | false => rfl
    | true =>
      obtain ⟨hj, j', hj', hne, hd⟩ := (key j).mp hx
      exact absurd hd (tell_1 hs hn hb ht hj hj' (Ne.symm hne))
  · intro ht
    apply Nat.eq_of_testBit_eq
    intro j
    rw [Nat.testBit_two_pow_sub_one]
    by_cases q : j < p3 n
    · rw [decide_eq_true q]
      obtain ⟨j', a, b, c⟩ := tell_2 hs h1 hn hb ht q
      exact (key j).mpr ⟨q, j', a, b, c⟩
    · rw [decide_eq_false q]
      cases hx : D.testBit j with
      | false => rfl
      | true => exact absurd ((key j).mp hx).1 q
theorem pb_p3 : ∀ n, n < 4 → pb 32 (2 ^ p3 n - 1) = p3 n ∧ 2 ^ p3 n - 1 ≠ 0 := by decide +kernel
theorem mk_bit {birds b : Nat} : mdF birds b = if (birds / 2 ^ b &&& 1) = 1 then 511 else 0 := by
  unfold mdF
  rw [bit1]
  cases birds.testBit b <;> rfl
theorem hash_ex (x : Nat) : ∃ (m a z : Int) (h0 : Nat), w64 ((x : Int) * 2654435761) = m ∧ i64 m >>> ((i32 20).toInt64 &&& 63) = i64 a ∧ rL a ∧ i64 a - i64 a / i64 16384 * i64 16384 = i64 z ∧ (-16384 < z ∧ z < 16384) ∧ h0 = hNF x ∧ h0 < 16384 ∧ (z < 0 → z + 16384 = ((h0 : Nat) : Int)) ∧ (¬ z < 0 → z = ((h0 : Nat) : Int)) :=
  ⟨w64 ((x : Int) * 2654435761), (i64 (w64 ((x : Int) * 2654435761)) >>> ((i32 20).toInt64 &&& 63)).toInt, hzF x, hNF x, rfl, i64_eq.symm, rL_toInt _, rem_z (rL_toInt _), hz_b x, rfl, (hN_b x).1, (hN_b x).2.1, (hN_b x).2.2⟩
theorem PB_s' {fr ky : Nat → Int} {x t h0 : Nat} (hh : h0 = hNF x) (hp : PB fr ky x t) (h1 : fr ((h0 + t) % 16384) ≠ 0) (h2 : ky ((h0 + t) % 16384) ≠ (x : Nat)) : PB fr ky x (t + 1) := by
  rw [hh] at h1 h2; exact PB_s hp h1 h2
theorem TI_s' {fr ky : Nat → Int} {xs ns : Nat → Nat} {r t F x h0 : Nat} (hh : h0 = hNF x) (hx : x = xs r) (h : TI fr ky xs ns r) (hn : ns r < 27) (hp : PB fr ky x t) (hF : fr ((h0 + t) % 16384) = (F : Nat)) (hor : fr ((h0 + t) % 16384) = 0 ∨ ky ((h0 + t) % 16384) = (x : Nat)) :
    TI (updF fr ((h0 + t) % 16384) ((F ||| 1 * 2 ^ ns r : Nat) : Int)) (updF ky ((h0 + t) % 16384) ((x : Nat) : Int)) xs ns (r + 1) := by
  rw [hh] at hF hor ⊢
  rw [hx] at hp hF hor ⊢
  exact TI_s h hn hp hF hor
theorem p226 {k : Nat} (h : k < 27) : 2 ^ k ≤ 67108864 := by
  have h1 := Nat.pow_le_pow_right (show 0 < 2 by decide) (show k ≤ 26 by omega)
  have h2 : 2 ^ 26 = 67108864 := by decide
  omega
theorem or_27' {F k : Nat} (hF : F < 134217728) (hk : k < 27) : F ||| 1 * 2 ^ k < 134217728 := by
  have h2 : 2 ^ 27 = 134217728 := by decide
  have := or_27 (F := F) (k := k) (by omega) hk
  omega
theorem dv_27 {fr ky : Nat → Int} {xs ns : Nat → Nat} {r k : Nat} (h : TI fr ky xs ns r) (hk : k ≤ 16384) : dvF fr k < 134217728 := by
  have h2 : 2 ^ 27 = 134217728 := by decide
  have := dvF_lt (fr := fr) k (fun q hq => by obtain ⟨F, hF, hFl⟩ := TI_F h (show q < 16384 by omega); rw [hF, Int.toNat_natCast]; omega)
  omega
