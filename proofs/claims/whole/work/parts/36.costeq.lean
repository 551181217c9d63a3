/-! costs by parts are costs by speakers -/
/-- equal costs; below 1000 equal ways -/
def EqR (a m c n : Nat → Int) : Prop := ∀ v, v < 364 → a v = c v ∧ (a v < 1000 → m v = n v)
def FreeR (c n : Nat → Int) : Prop := ∀ v, v < 364 → c v = 0 ∧ n v = 1
theorem wgs_eqr {a m c n : Nat → Int} {so v : Nat} (hs : so ≤ 4) (hv : v < 364) (h : EqR a m c n) : ∀ k, (wgs a m so v k).1 = (wgs c n so v k).1 ∧ ((wgs a m so v k).1 < 1000 → (wgs a m so v k).2 = (wgs c n so v k).2)
  | 0 => h v hv
  | k + 1 => by
    have ih := wgs_eqr hs hv h k
    have hx := h (nth so v (k + 1)) (nth_lt hs hv)
    by_cases p : (wgs a m so v k).1 < a (nth so v (k + 1)) + 1
    · rw [wgs_skip p, wgs_skip (by rw [← ih.1, ← hx.1]; exact p)]; exact ih
    · by_cases q : a (nth so v (k + 1)) + 1 < (wgs a m so v k).1
      · rw [wgs_lt q, wgs_lt (by rw [← ih.1, ← hx.1]; exact q)]
        exact ⟨by dsimp only; rw [hx.1], fun z => hx.2 (by dsimp only at z; omega)⟩
      · rw [wgs_eq p q, wgs_eq (by rw [← ih.1, ← hx.1]; exact p) (by rw [← ih.1, ← hx.1]; exact q)]
        refine ⟨by dsimp only; rw [hx.1], fun z => ?_⟩
        dsimp only at z ⊢
        rw [ih.2 (by omega), hx.2 (by omega)]
theorem wgs_free {c n : Nat → Int} {so v : Nat} (hs : so ≤ 4) (hv : v < 364) (h : FreeR c n) : ∀ k, wgs c n so v k = (0, 1)
  | 0 => by show (c v, n v) = (0, 1); rw [(h v hv).1, (h v hv).2]
  | k + 1 => by
    have hx := h (nth so v (k + 1)) (nth_lt hs hv)
    rw [wgs_skip (by rw [wgs_free hs hv h k, hx.1]; dsimp only; omega), wgs_free hs hv h k]
theorem cap_le {x : Int} (h : x ≤ 1000) : cap x = x := by unfold cap; split <;> omega
theorem EqR_gb {ch nh cs ns ch' nh' cs' ns' : Nat → Int} {so : Nat} (hs : so ≤ 4) (h1 : EqR ch nh ch' nh') (h2 : EqR cs ns cs' ns') (b1 : ∀ v, v < 364 → 0 ≤ ch v ∧ ch v ≤ 1000) (b2 : ∀ v, v < 364 → 0 ≤ cs v ∧ cs v ≤ 1000) :
    EqR (gbC ch nh cs so) (gbN ch nh ns so) (fun v => cap (cs' v + (wg ch' nh' so v).1)) (fun v => w64 (ns' v * (if cap (cs' v + (wg ch' nh' so v).1) < 1000 then (wg ch' nh' so v).2 else 0))) := by
  intro v hv
  have e := wgs_eqr hs hv h1 (slN so v)
  have e1 : (wg ch nh so v).1 = (wg ch' nh' so v).1 := e.1
  have e2 : (wg ch nh so v).1 < 1000 → (wg ch nh so v).2 = (wg ch' nh' so v).2 := e.2
  have g := h2 v hv
  have b3 := wg_b (n := nh) hs hv b1
  have b4 := b2 v hv
  show cap (cs v + (wg ch nh so v).1) = cap (cs' v + (wg ch' nh' so v).1) ∧ (cap (cs v + (wg ch nh so v).1) < 1000 → w64 (ns v * (wg ch nh so v).2) = w64 (ns' v * (if cap (cs' v + (wg ch' nh' so v).1) < 1000 then (wg ch' nh' so v).2 else 0)))
  rw [← g.1, ← e1]
  refine ⟨rfl, fun q => ?_⟩
  have q2 := cap_lt q
  rw [if_pos q, g.2 (by omega), e2 (by omega)]
theorem EqR_un {cs ns ch' nh' cs' ns' : Nat → Int} {so : Nat} (hs : so ≤ 4) (h1 : FreeR ch' nh') (h2 : EqR cs ns cs' ns') (b2 : ∀ v, v < 364 → 0 ≤ cs v ∧ cs v ≤ 1000) (hr : ∀ v, v < 364 → rL (ns' v)) :
    EqR cs ns (fun v => cap (cs' v + (wg ch' nh' so v).1)) (fun v => w64 (ns' v * (if cap (cs' v + (wg ch' nh' so v).1) < 1000 then (wg ch' nh' so v).2 else 0))) := by
  intro v hv
  have e : wg ch' nh' so v = (0, 1) := wgs_free hs hv h1 _
  have g := h2 v hv
  have b4 := b2 v hv
  show cs v = cap (cs' v + (wg ch' nh' so v).1) ∧ (cs v < 1000 → ns v = w64 (ns' v * (if cap (cs' v + (wg ch' nh' so v).1) < 1000 then (wg ch' nh' so v).2 else 0)))
  rw [e, ← g.1, Int.add_zero, cap_le b4.2]
  refine ⟨rfl, fun q => ?_⟩
  rw [if_pos q, Int.mul_one, w64_id (hr v hv)]
  exact g.2 q
theorem gb_rows {S : HS} {s h so : Nat} (hb : S.2.2 h = true) (hsh : s ≠ h) :
    ((gbH S s h so).1 h = (fun _ => 0) ∧ (gbH S s h so).2.1 h = (fun _ => 1) ∧ (gbH S s h so).2.2 h = false) ∧
    ((gbH S s h so).1 s = gbC (S.1 h) (S.2.1 h) (S.1 s) so ∧ (gbH S s h so).2.1 s = gbN (S.1 h) (S.2.1 h) (S.2.1 s) so ∧ (gbH S s h so).2.2 s = true) ∧
    ∀ b, b ≠ s → b ≠ h → (gbH S s h so).1 b = S.1 b ∧ (gbH S s h so).2.1 b = S.2.1 b ∧ (gbH S s h so).2.2 b = S.2.2 b := by
  have e : gbH S s h so = (upR (upR S.1 s (gbC (S.1 h) (S.2.1 h) (S.1 s) so)) h (fun _ => 0), upR (upR S.2.1 s (gbN (S.1 h) (S.2.1 h) (S.2.1 s) so)) h (fun _ => 1), updF (updF S.2.2 s true) h false) := by
    unfold gbH; rw [if_pos hb]; rfl
  rw [e]
  refine ⟨⟨upR_s, upR_s, updF_s⟩, ⟨?_, ?_, ?_⟩, fun b h1 h2 => ⟨?_, ?_, ?_⟩⟩
  · exact (upR_n hsh).trans upR_s
  · exact (upR_n hsh).trans upR_s
  · exact (updF_n hsh).trans updF_s
  · exact (upR_n h2).trans (upR_n h1)
  · exact (upR_n h2).trans (upR_n h1)
  · exact (updF_n h2).trans (updF_n h1)
theorem heard_at {σ : SG} {b : Nat} {bys : Nat → Nat} : ∀ k p, p < k → (wrun σ b true bys wZ k).2.1 p = hearsB σ true (wrun σ b true bys wZ p) p
  | 0, p, h => absurd h (Nat.not_lt_zero p)
  | k + 1, p, h => by
    show updF (wrun σ b true bys wZ k).2.1 k (hearsB σ true (wrun σ b true bys wZ k) k) p = _
    by_cases e : p = k
    · subst e; rw [updF_s]
    · rw [updF_n e]; exact heard_at k p (by omega)
theorem heardF_at {σ : SG} {p : Nat} (hp : p < nn σ) : heardF σ p = hearsB σ true (wrun σ (bg σ) true (di σ) wZ p) p := heard_at (nn σ) p hp
theorem hears_run {σ : SG} {b : Nat} {bys : Nat → Nat} {p : Nat} (hp : p < nn σ) : hearsB σ true (wrun σ b true bys wZ p) p = heardF σ p := by
  rw [heardF_at hp]
  have h := run_same (σ := σ) (τ := σ) (first := true) (b := bg σ) (b' := b) (bys := di σ) (bys' := bys) rfl rfl rfl p
  exact hB_same rfl rfl rfl h.1 h.2
theorem keeps_src {σ : SG} {b : Nat} {bys : Nat → Nat} (hn : nn σ ≤ 16) (s : Nat) : ∀ k, k ≤ nn σ → ((wrun σ b true bys wZ k).1 s).isSome = decide (srcG σ (heardF σ) s k ≠ 16)
  | 0, _ => rfl
  | k + 1, h => by
    have ih := keeps_src (b := b) (bys := bys) hn s k (by omega)
    have hh := hears_run (b := b) (bys := bys) (show k < nn σ by omega)
    rw [srcG_s]
    show ((if hearsB σ true (wrun σ b true bys wZ k) k then updF (wrun σ b true bys wZ k).1 (he σ k) (some (nth (so σ (he σ k)) (saidF σ b (wrun σ b true bys wZ k) k) (bys k))) else (wrun σ b true bys wZ k).1 : Nat → Option Nat) s).isSome = _
    rw [hh]
    by_cases e : heardF σ k = true
    · by_cases e2 : he σ k = s
      · rw [if_pos e, if_pos ⟨e, e2⟩, ← e2, updF_s, decide_eq_true (show k ≠ 16 by omega)]; rfl
      · rw [if_pos e, if_neg (fun q => e2 q.2), updF_n (Ne.symm e2)]; exact ih
    · rw [if_neg e, if_neg (fun q => e q.1)]; exact ih
theorem src_heard {σ : SG} (hs : WF σ) {q : Nat} (hq : q < nn σ) (hH : heardF σ q = true) (h6 : sp' σ q ≠ 6) : srcG σ (heardF σ) (sp' σ q) q ≠ 16 ∧ sp' σ q < 6 := by
  have hp := hs.2.2.2.1 q hq
  rw [heardF_at hq] at hH
  rcases hB_heard hp.1 hH with e | ⟨e, v, hv⟩
  · exact absurd e h6
  · refine ⟨fun z => ?_, e⟩
    have := keeps_src (b := bg σ) (bys := di σ) hs.2.2.1 (sp' σ q) q (by omega)
    rw [hv, z] at this
    simp at this
theorem src_top {σ : SG} {H : Nat → Bool} {s p : Nat} (hp : p ≠ 16) : ∀ k, srcG σ H s k = p → (p < k ∧ H p = true ∧ he σ p = s) ∧ ∀ q, p < q → q < k → ¬ (H q = true ∧ he σ q = s)
  | 0, h => absurd h.symm hp
  | k + 1, h => by
    rw [srcG_s] at h
    split at h
    · rename_i c
      subst h
      exact ⟨⟨by omega, c⟩, fun q h1 h2 => by omega⟩
    · rename_i c
      have ih := src_top hp k h
      refine ⟨⟨by omega, ih.1.2⟩, fun q h1 h2 => ?_⟩
      by_cases e : q = k
      · rw [e]; exact c
      · exact ih.2 q h1 (by omega)
theorem src_of {σ : SG} {H : Nat → Bool} {s p : Nat} (h1 : H p = true) (h2 : he σ p = s) : ∀ k, p < k → (∀ q, p < q → q < k → ¬ (H q = true ∧ he σ q = s)) → srcG σ H s k = p
  | 0, h, _ => absurd h (Nat.not_lt_zero p)
  | k + 1, h, hn => by
    rw [srcG_s]
    by_cases e : p = k
    · subst e; rw [if_pos ⟨h1, h2⟩]
    · rw [if_neg (hn k (by omega) (by omega))]
      exact src_of h1 h2 k (by omega) (fun q a b => hn q a (by omega))
theorem src_none {σ : SG} {H : Nat → Bool} {s : Nat} : ∀ k, k ≤ 16 → srcG σ H s k = 16 → ∀ q, q < k → ¬ (H q = true ∧ he σ q = s)
  | 0, _, _, q, h => absurd h (Nat.not_lt_zero q)
  | k + 1, hk, h, q, hq => by
    rw [srcG_s] at h
    split at h
    · omega
    · rename_i c
      by_cases e : q = k
      · rw [e]; exact c
      · exact src_none k (by omega) h q (by omega)
theorem src_non {σ : SG} {H : Nat → Bool} {s : Nat} : ∀ k, (∀ q, q < k → ¬ (H q = true ∧ he σ q = s)) → srcG σ H s k = 16
  | 0, _ => rfl
  | k + 1, h => by rw [srcG_s, if_neg (h k (by omega))]; exact src_non k (fun q hq => h q (by omega))
/-- what the class's rows begin with -/
def hSp (σ : SG) (L : Int) (S : HS) (b : Nat) : Prop := ((te σ b = none ∨ (b : Int) = L) → S.2.2 b = false ∧ ∀ v, S.1 b v = 0 ∧ S.2.1 b v = 1) ∧ ∀ w, te σ b = some w → ¬ (b : Int) = L → S.2.2 b = true ∧ ∀ v, S.1 b v = (if v = w then 0 else 1000) ∧ S.2.1 b v = (if v = w then 1 else 0)
theorem hI_sp {σ : SG} {L : Int} : ∀ k, (∀ b, b < k → hSp σ L (hI σ L k) b) ∧ ∀ b, k ≤ b → (hI σ L k).2.2 b = false ∧ ∀ v, (hI σ L k).1 b v = 0 ∧ (hI σ L k).2.1 b v = 1
  | 0 => ⟨fun b h => absurd h (Nat.not_lt_zero b), fun b _ => ⟨rfl, fun v => ⟨rfl, rfl⟩⟩⟩
  | k + 1 => by
    obtain ⟨i1, i2⟩ := hI_sp (σ := σ) (L := L) k
    have same : hI σ L (k + 1) = hI σ L k → (te σ k = none ∨ (k : Int) = L) → (∀ b, b < k + 1 → hSp σ L (hI σ L (k + 1)) b) ∧ ∀ b, k + 1 ≤ b → (hI σ L (k + 1)).2.2 b = false ∧ ∀ v, (hI σ L (k + 1)).1 b v = 0 ∧ (hI σ L (k + 1)).2.1 b v = 1 := by
      intro e hc
      rw [e]
      refine ⟨fun b hb => ?_, fun b hb => i2 b (by omega)⟩
      by_cases eb : b = k
      · subst eb
        refine ⟨fun _ => i2 b (Nat.le_refl b), fun w h1 h2 => ?_⟩
        rcases hc with hc | hc
        · rw [hc] at h1; cases h1
        · exact absurd hc h2
      · exact i1 b (by omega)
    cases ht : te σ k with
    | none => exact same (hI_none ht) (Or.inl ht)
    | some w =>
      by_cases hk : (k : Int) = L
      · exact same (hI_L hk) (Or.inr hk)
      · rw [hI_b ht hk]
        have r1 : ∀ b, b ≠ k → (bindH (hI σ L k) k w).1 b = (hI σ L k).1 b ∧ (bindH (hI σ L k) k w).2.1 b = (hI σ L k).2.1 b ∧ (bindH (hI σ L k) k w).2.2 b = (hI σ L k).2.2 b := fun b hb => ⟨upR_n hb, upR_n hb, updF_n hb⟩
        refine ⟨fun b hb => ?_, fun b hb => ?_⟩
        · by_cases eb : b = k
          · subst eb
            refine ⟨fun q => ?_, fun w' h1 h2 => ?_⟩
            · rcases q with q | q
              · rw [q] at ht; cases ht
              · exact absurd q hk
            · have ew : w' = w := Option.some.inj (h1.symm.trans ht)
              subst ew
              refine ⟨updF_s, fun v => ⟨?_, ?_⟩⟩
              · show upR _ _ _ b v = _; rw [upR_s]
              · show upR _ _ _ b v = _; rw [upR_s]
          · have := r1 b eb
            unfold hSp
            rw [this.1, this.2.1, this.2.2]
            exact i1 b (by omega)
        · have := r1 b (by omega)
          rw [this.1, this.2.1, this.2.2]
          exact i2 b (by omega)
def Inv (σ : SG) (L : Int) (k : Nat) (S : HS) (X : FW) : Prop :=
  (∀ b, b < 6 → srcG σ (heardF σ) b k ≠ 16 → EqR (S.1 b) (S.2.1 b) (X.1 (srcG σ (heardF σ) b k)) (X.2 (srcG σ (heardF σ) b k))) ∧
  (∀ b, b < 6 → srcG σ (heardF σ) b k = 16 → (S.2.2 b = true ↔ (te σ b ≠ none ∧ ¬ (b : Int) = L ∧ ∀ q, k ≤ q → q < nn σ → heardF σ q = true → he σ q ≠ b))) ∧
  ((canF σ L = true → EqR (S.1 6) (S.2.1 6) (X.1 16) (X.2 16)) ∧ (canF σ L = false → ∀ v, v < 364 → X.1 16 v = 1000)) ∧
  (∀ b, b < 6 → S.2.2 b = false → FreeR (S.1 b) (S.2.1 b)) ∧
  (∀ p, p ≤ 16 → ∀ v, v < 364 → rL (X.2 p v)) ∧
  (∀ p, p < k → heardF σ p = true → srcG σ (heardF σ) (he σ p) k ≠ p → FreeR (X.1 p) (X.2 p))
theorem rI_at {σ : SG} {L : Int} {p v : Nat} : (fitB σ (heardF σ) L (canF σ L) p v = true → (rI' σ L).1 p v = 0 ∧ (rI' σ L).2 p v = 1) ∧ (fitB σ (heardF σ) L (canF σ L) p v = false → (rI' σ L).1 p v = 1000 ∧ (rI' σ L).2 p v = 0) := by
  constructor
  · intro h
    show (if _ then _ else _ : Int) = 0 ∧ (if _ then _ else _ : Int) = 1
    rw [if_pos h, if_pos h]; exact ⟨rfl, rfl⟩
  · intro h
    show (if _ then _ else _ : Int) = 1000 ∧ (if _ then _ else _ : Int) = 0
    rw [if_neg (by rw [h]; decide), if_neg (by rw [h]; decide)]; exact ⟨rfl, rfl⟩
theorem lst_t {σ : SG} {p : Nat} (h : ∀ q, p < q → q < nn σ → ¬ (heardF σ q = true ∧ he σ q = he σ p)) : lstF σ (heardF σ) p = true := by
  unfold lstF
  rw [anyB_f (fun q hq => ?_)]
  · rfl
  · unfold lstB
    by_cases a : p < q
    · have := h q a hq
      by_cases b : heardF σ q = true
      · rw [decide_eq_false (fun e => this ⟨b, e⟩), Bool.and_false]
      · have b : heardF σ q = false := by cases hx : heardF σ q; { rfl }; { exact absurd hx b }
        rw [b, Bool.and_false]; rfl
    · rw [decide_eq_false a]; rfl
theorem Inv_0 {σ : SG} {L : Int} (hs : WF σ) : Inv σ L (nn σ) (hI σ L 6) (rI' σ L) := by
  obtain ⟨i1, i2⟩ := hI_sp (σ := σ) (L := L) 6
  have hn := hs.2.2.1
  refine ⟨fun b hb hb2 => ?_, fun b hb hb2 => ?_, ⟨fun hc => ?_, fun hc v hv => ?_⟩, fun b hb hf => ?_, fun p hp v hv => ?_, fun p hp hH hp2 => ?_⟩
  · obtain ⟨⟨t1, t2, t3⟩, t4⟩ := src_top hb2 (nn σ) rfl
    have hl : lstF σ (heardF σ) (srcG σ (heardF σ) b (nn σ)) = true := lst_t (fun q h1 h2 => by rw [t3]; exact t4 q h1 h2)
    have hfit : ∀ v, fitB σ (heardF σ) L (canF σ L) (srcG σ (heardF σ) b (nn σ)) v = decide (te σ b = none ∨ (b : Int) = L ∨ te σ b = some v) := by
      intro v
      unfold fitB
      rw [if_pos ⟨t1, t2, hl⟩, t3]
    intro v hv
    have sp := i1 b hb
    have r := rI_at (σ := σ) (L := L) (p := srcG σ (heardF σ) b (nn σ)) (v := v)
    rw [hfit v] at r
    by_cases c : te σ b = none ∨ (b : Int) = L
    · have s1 := (sp.1 c).2 v
      have r1 := r.1 (decide_eq_true (by rcases c with c | c; { exact Or.inl c }; { exact Or.inr (Or.inl c) }))
      rw [s1.1, s1.2, r1.1, r1.2]; exact ⟨rfl, fun _ => rfl⟩
    · cases ht : te σ b with
      | none => exact absurd (Or.inl ht) c
      | some w =>
        have s1 := (sp.2 w ht (fun q => c (Or.inr q))).2 v
        rw [s1.1, s1.2]
        by_cases e : v = w
        · have r1 := r.1 (decide_eq_true (Or.inr (Or.inr (by rw [ht, e]))))
          rw [if_pos e, if_pos e, r1.1, r1.2]; exact ⟨rfl, fun _ => rfl⟩
        · have r1 := r.2 (decide_eq_false (fun q => by
            rcases q with q | q | q
            · exact c (Or.inl q)
            · exact c (Or.inr q)
            · rw [ht] at q; exact e (Option.some.inj q).symm))
          rw [if_neg e, if_neg e, r1.1, r1.2]; exact ⟨rfl, fun _ => rfl⟩
  · have sp := i1 b hb
    constructor
    · intro h
      by_cases c : te σ b = none ∨ (b : Int) = L
      · rw [(sp.1 c).1] at h; cases h
      · exact ⟨fun q => c (Or.inl q), fun q => c (Or.inr q), fun q h1 h2 => by omega⟩
    · rintro ⟨h1, h2, _⟩
      cases ht : te σ b with
      | none => exact absurd ht h1
      | some w => exact (sp.2 w ht h2).1
  · intro v hv
    have s := (i2 6 (Nat.le_refl 6)).2 v
    have r := (rI_at (σ := σ) (L := L) (p := 16) (v := v)).1 (by unfold fitB; rw [if_neg (by omega), hc, Bool.or_true])
    rw [s.1, s.2, r.1, r.2]; exact ⟨rfl, fun _ => rfl⟩
  · exact ((rI_at (σ := σ) (L := L) (p := 16) (v := v)).2 (by unfold fitB; rw [if_neg (by omega), hc]; decide)).1
  · have sp := i1 b hb
    by_cases c : te σ b = none ∨ (b : Int) = L
    · exact fun v _ => (sp.1 c).2 v
    · cases ht : te σ b with
      | none => exact absurd (Or.inl ht) c
      | some w => rw [(sp.2 w ht (fun q => c (Or.inr q))).1] at hf; cases hf
  · show rL (if _ then _ else _ : Int)
    unfold rL
    split <;> omega
  · intro v hv
    refine (rI_at (σ := σ) (L := L) (p := p) (v := v)).1 ?_
    unfold fitB
    rw [if_neg, decide_eq_true (show p < 16 by omega), Bool.true_or]
    rintro ⟨_, _, hl⟩
    refine hp2 (src_of hH rfl (nn σ) hp (fun q h1 h2 h3 => ?_))
    unfold lstF at hl
    rw [anyB_t (b := q) h2 (by unfold lstB; rw [h3.1, decide_eq_true h1, decide_eq_true h3.2]; rfl)] at hl
    cases hl
theorem srcG_le {σ : SG} {H : Nat → Bool} {s k : Nat} (h : srcG σ H s k ≠ 16) : srcG σ H s k < k ∧ H (srcG σ H s k) = true ∧ he σ (srcG σ H s k) = s := (srcG_b σ H s k).resolve_left h
theorem Inv_no {σ : SG} {L : Int} {q : Nat} {S : HS} {X : FW} (h : Inv σ L (q + 1) S X) (hH : heardF σ q = false) : Inv σ L q S X := by
  have e : ∀ b, srcG σ (heardF σ) b (q + 1) = srcG σ (heardF σ) b q := fun b => by rw [srcG_s, if_neg (fun z => by rw [hH] at z; exact absurd z.1 (by decide))]
  obtain ⟨h1, h2, h3, h4, h5, h6⟩ := h
  refine ⟨fun b hb hb2 => ?_, fun b hb hb2 => ?_, h3, h4, h5, fun p hp hp2 hp3 => ?_⟩
  · have := h1 b hb (by rw [e]; exact hb2)
    rw [e] at this; exact this
  · rw [h2 b hb (by rw [e]; exact hb2)]
    constructor
    · rintro ⟨a, c, d⟩
      refine ⟨a, c, fun t t1 t2 t3 => ?_⟩
      by_cases et : t = q
      · rw [et, hH] at t3; cases t3
      · exact d t (by omega) t2 t3
    · rintro ⟨a, c, d⟩
      exact ⟨a, c, fun t t1 t2 t3 => d t (by omega) t2 t3⟩
  · exact h6 p (by omega) hp2 (by rw [e]; exact hp3)
theorem Inv_yes {σ : SG} {L : Int} {q : Nat} {S : HS} {X : FW} (hs : WF σ) (hq : q < nn σ) (h : Inv σ L (q + 1) S X) (hH : heardF σ q = true) (bS : BdH S) (bX : BdW X) : Inv σ L q (gbH S (sp' σ q) (he σ q) (so σ (he σ q))) (hng X (so σ (he σ q)) q (srcF σ (heardF σ) q)) := by
  have hn := hs.2.2.1
  have hp := hs.2.2.2.1 q hq
  have hso := hs.1 (he σ q) (by omega)
  have hs6 : sp' σ q ≤ 6 := HOK_D hs q hq hH
  have eq1 : srcG σ (heardF σ) (he σ q) (q + 1) = q := by rw [srcG_s, if_pos ⟨hH, rfl⟩]
  have eq2 : ∀ b, b ≠ he σ q → srcG σ (heardF σ) b (q + 1) = srcG σ (heardF σ) b q := fun b hb => by rw [srcG_s, if_neg (fun z => hb z.2.symm)]
  -- where the speaker's row lies
  have hon : (sp' σ q = 6 ∧ srcF σ (heardF σ) q = 16) ∨ (sp' σ q < 6 ∧ srcF σ (heardF σ) q = srcG σ (heardF σ) (sp' σ q) q ∧ srcG σ (heardF σ) (sp' σ q) q ≠ 16) := by
    unfold srcF
    by_cases c : sp' σ q = 6
    · rw [if_pos c]; exact Or.inl ⟨c, rfl⟩
    · rw [if_neg c]
      have := src_heard hs hq hH c
      exact Or.inr ⟨this.2, rfl, this.1⟩
  generalize hO : srcF σ (heardF σ) q = on at hon ⊢
  have honle : on ≤ 16 := by
    rcases hon with c | c
    · omega
    · have := srcG_le c.2.2; omega
  have honh : on < 16 → he σ on = sp' σ q := by
    intro z
    rcases hon with c | c
    · omega
    · rw [c.2.1]; exact (srcG_le c.2.2).2.2
  obtain ⟨h1, h2, h3, h4, h5, h6⟩ := h
  -- the hearer's rows agree
  have hE := h1 (he σ q) (by omega) (by rw [eq1]; omega)
  rw [eq1] at hE
  have bh := bS (he σ q) (by omega)
  have bs := bS (sp' σ q) hs6
  -- rows of X that stay
  have xs : ∀ p, p ≠ on → (hng X (so σ (he σ q)) q on).1 p = X.1 p ∧ (hng X (so σ (he σ q)) q on).2 p = X.2 p := fun p hp => ⟨upR_n hp, upR_n hp⟩
  have xo : (hng X (so σ (he σ q)) q on).1 on = hgC X (so σ (he σ q)) q on ∧ (hng X (so σ (he σ q)) q on).2 on = hgN X (so σ (he σ q)) q on := ⟨upR_s, upR_s⟩
  -- rows of S behind the step
  have key : ((gbH S (sp' σ q) (he σ q) (so σ (he σ q))).2.2 (he σ q) = false ∧ FreeR ((gbH S (sp' σ q) (he σ q) (so σ (he σ q))).1 (he σ q)) ((gbH S (sp' σ q) (he σ q) (so σ (he σ q))).2.1 (he σ q))) ∧
      (∀ b, b ≠ sp' σ q → b ≠ he σ q → (gbH S (sp' σ q) (he σ q) (so σ (he σ q))).1 b = S.1 b ∧ (gbH S (sp' σ q) (he σ q) (so σ (he σ q))).2.1 b = S.2.1 b ∧ (gbH S (sp' σ q) (he σ q) (so σ (he σ q))).2.2 b = S.2.2 b) ∧
      (EqR (S.1 (sp' σ q)) (S.2.1 (sp' σ q)) (X.1 on) (X.2 on) → EqR ((gbH S (sp' σ q) (he σ q) (so σ (he σ q))).1 (sp' σ q)) ((gbH S (sp' σ q) (he σ q) (so σ (he σ q))).2.1 (sp' σ q)) (hgC X (so σ (he σ q)) q on) (hgN X (so σ (he σ q)) q on)) ∧
      ((gbH S (sp' σ q) (he σ q) (so σ (he σ q))).2.2 (sp' σ q) = false → sp' σ q < 6 → FreeR ((gbH S (sp' σ q) (he σ q) (so σ (he σ q))).1 (sp' σ q)) ((gbH S (sp' σ q) (he σ q) (so σ (he σ q))).2.1 (sp' σ q))) := by
    by_cases hb : S.2.2 (he σ q) = true
    · obtain ⟨g1, g2, g3⟩ := gb_rows (S := S) (so := so σ (he σ q)) hb hp.2.2.2
      refine ⟨⟨g1.2.2, fun v _ => ?_⟩, g3, fun z => ?_, fun z _ => ?_⟩
      · rw [g1.1, g1.2.1]; exact ⟨rfl, rfl⟩
      · rw [g2.1, g2.2.1]
        exact EqR_gb hso hE z bh bs
      · rw [g2.2.2] at z; cases z
    · have hb : S.2.2 (he σ q) = false := by cases hx : S.2.2 (he σ q); { rfl }; { exact absurd hx hb }
      rw [gb_F hb]
      have hf := h4 (he σ q) (by omega) hb
      refine ⟨⟨hb, hf⟩, fun b _ _ => ⟨rfl, rfl, rfl⟩, fun z => ?_, fun z hz => h4 _ hz z⟩
      refine EqR_un hso (fun v hv => ?_) z bs (h5 on honle)
      have a := hE v hv
      have c := hf v hv
      have d := a.2 (by omega)
      exact ⟨by omega, by omega⟩
  obtain ⟨k1, k2, k3, k4⟩ := key
  refine ⟨fun b hb hb2 => ?_, fun b hb hb2 => ?_, ?_, fun b hb hf => ?_, fun p hp2 v hv => ?_, fun p hp2 hpH hp3 => ?_⟩
  · by_cases e : b = he σ q
    · -- the hearer: free again
      have gl := srcG_le hb2
      have hne : srcG σ (heardF σ) b q ≠ on := by
        intro z
        rcases hon with c | c
        · omega
        · have := honh (by omega); rw [← z, gl.2.2, e] at this; exact hp.2.2.2 this.symm
      have fr := h6 (srcG σ (heardF σ) b q) (by omega) gl.2.1 (by rw [gl.2.2, e, eq1]; rw [e] at gl; omega)
      rw [(xs _ hne).1, (xs _ hne).2]
      intro v hv
      have a := fr v hv
      have c := k1.2 v hv
      rw [a.1, a.2, e, c.1, c.2]; exact ⟨rfl, fun _ => rfl⟩
    · by_cases e2 : b = sp' σ q
      · rcases hon with c | c
        · omega
        · have z := h1 b hb (by rw [eq2 b e]; exact hb2)
          rw [eq2 b e, e2, ← c.2.1] at z
          rw [e2, ← c.2.1, xo.1, xo.2]
          exact k3 z
      · have gl := srcG_le hb2
        have hne : srcG σ (heardF σ) b q ≠ on := by
          intro z
          rcases hon with c | c
          · omega
          · have := honh (by omega); rw [← z, gl.2.2] at this; exact e2 this
        have z := h1 b hb (by rw [eq2 b e]; exact hb2)
        rw [eq2 b e] at z
        rw [(xs _ hne).1, (xs _ hne).2, (k2 b e2 e).1, (k2 b e2 e).2.1]
        exact z
  · by_cases e : b = he σ q
    · constructor
      · intro z; rw [e, k1.1] at z; cases z
      · rintro ⟨_, _, z⟩; exact absurd e.symm (z q (Nat.le_refl q) hq hH)
    · have e2 : b ≠ sp' σ q := by
        intro z
        rcases hon with c | c
        · omega
        · rw [z] at hb2; exact c.2.2 hb2
      rw [(k2 b e2 e).2.2, h2 b hb (by rw [eq2 b e]; exact hb2)]
      constructor
      · rintro ⟨a, c, d⟩
        refine ⟨a, c, fun t t1 t2 t3 => ?_⟩
        by_cases et : t = q
        · rw [et]; exact fun z => e z.symm
        · exact d t (by omega) t2 t3
      · rintro ⟨a, c, d⟩
        exact ⟨a, c, fun t t1 t2 t3 => d t (by omega) t2 t3⟩
  · rcases hon with c | c
    · rw [c.2] at xo k3 ⊢
      rw [xo.1, xo.2]
      refine ⟨fun hc => ?_, fun hc v hv => ?_⟩
      · have := k3 (by rw [c.1]; exact h3.1 hc)
        rw [c.1] at this ⊢
        exact this
      · have a := h3.2 hc v hv
        have b := wg_b (n := X.2 q) hso hv (bX q (by omega))
        show cap (X.1 16 v + (wg (X.1 q) (X.2 q) (so σ (he σ q)) v).1) = 1000
        unfold cap
        rw [if_neg (by omega)]
    · have ne : (16 : Nat) ≠ on := by rw [c.2.1]; exact fun z => c.2.2 z.symm
      rw [(xs 16 ne).1, (xs 16 ne).2, (k2 6 (by omega) (by omega)).1, (k2 6 (by omega) (by omega)).2.1]
      exact h3
  · by_cases e : b = he σ q
    · rw [e]; exact k1.2
    · by_cases e2 : b = sp' σ q
      · rw [e2] at hf hb ⊢; exact k4 hf hb
      · rw [(k2 b e2 e).2.2] at hf
        rw [(k2 b e2 e).1, (k2 b e2 e).2.1]
        exact h4 b hb hf
  · by_cases e : p = on
    · rw [e, xo.2]; exact w64_r _
    · rw [(xs p e).2]; exact h5 p hp2 v hv
  · have hne : p ≠ on := by
      intro z
      rcases hon with c | c
      · omega
      · have := honh (by omega)
        rw [z, this, ← c.2.1] at hp3
        exact hp3 rfl
    rw [(xs p hne).1, (xs p hne).2]
    refine h6 p (by omega) hpH ?_
    by_cases e : he σ p = he σ q
    · rw [e, eq1]; omega
    · rw [eq2 _ e]; exact hp3
theorem Inv_run {σ : SG} {L : Int} (hs : WF σ) : ∀ i, i ≤ nn σ → Inv σ L (nn σ - i) (hRec σ (heardF σ) L i) (rRec σ L i)
  | 0, _ => Inv_0 hs
  | i + 1, h => by
    have ih := Inv_run (L := L) hs i (by omega)
    have e : nn σ - i = (nn σ - 1 - i) + 1 := by omega
    rw [e] at ih
    rw [show nn σ - (i + 1) = nn σ - 1 - i by omega]
    show Inv σ L (nn σ - 1 - i) (if _ then _ else _) (if _ then _ else _)
    by_cases c : heardF σ (nn σ - 1 - i) = true
    · rw [if_pos c, if_pos c]
      exact Inv_yes hs (by omega) ih c (BdH_rec hs (HOK_D hs) i (by omega)) (BdW_r hs i (by omega))
    · rw [if_neg c, if_neg c]
      have c : heardF σ (nn σ - 1 - i) = false := by cases hx : heardF σ (nn σ - 1 - i); { rfl }; { exact absurd hx c }
      exact Inv_no ih c
theorem canG_t {σ : SG} {L : Int} {kp : Nat → Option Nat} : ∀ k, (∀ b, b < k → te σ b = none ∨ (b : Int) = L ∨ (kp b).isSome = true) → canG σ L kp k = true
  | 0, _ => rfl
  | k + 1, h => by
    rw [canG_s, canG_t k (fun b hb => h b (by omega))]
    rcases h k (by omega) with c | c | c
    · rw [decide_eq_true (Or.inl c)]; rfl
    · rw [decide_eq_true (Or.inr c)]; rfl
    · rw [c, Bool.or_true]; rfl
theorem canG_f {σ : SG} {L : Int} {kp : Nat → Option Nat} {b : Nat} (h1 : te σ b ≠ none) (h2 : ¬ (b : Int) = L) (h3 : (kp b).isSome = false) : ∀ k, b < k → canG σ L kp k = false
  | 0, h => absurd h (Nat.not_lt_zero b)
  | k + 1, h => by
    rw [canG_s]
    by_cases e : b = k
    · subst e
      rw [decide_eq_false (fun q => by rcases q with q | q; { exact h1 q }; { exact h2 q }), h3]
      cases canG σ L kp b <;> rfl
    · rw [canG_f h1 h2 h3 k (by omega)]; rfl
theorem cost_eq {σ : SG} {L : Int} (hs : WF σ) : ∀ v, v < 364 → (rRec σ L (nn σ)).1 16 v = cX σ L v ∧ (cX σ L v < 1000 → (rRec σ L (nn σ)).2 16 v = nX σ L v) := by
  have hI := Inv_run (L := L) hs (nn σ) (Nat.le_refl _)
  rw [Nat.sub_self] at hI
  obtain ⟨h1, h2, h3, h4, h5, h6⟩ := hI
  have hn := hs.2.2.1
  have hk : ∀ b, ((wD σ).1 b).isSome = decide (srcG σ (heardF σ) b (nn σ) ≠ 16) := fun b => keeps_src hn b (nn σ) (Nat.le_refl _)
  intro v hv
  unfold cX nX hS
  by_cases hany : anyB (hRec σ (heardF σ) L (nn σ)).2.2 6 = true
  · rw [hFin_t hany]
    have hc : canF σ L = false := by
      cases hcf : canF σ L with
      | false => rfl
      | true =>
        exfalso
        have : anyB (hRec σ (heardF σ) L (nn σ)).2.2 6 = false := anyB_f (fun b hb => by
          cases hx : (hRec σ (heardF σ) L (nn σ)).2.2 b with
          | false => rfl
          | true =>
            exfalso
            obtain ⟨a1, a2, a3⟩ := (h2 b hb rfl).mp hx
            have hns : srcG σ (heardF σ) b (nn σ) = 16 := src_non (nn σ) (fun q hq z => a3 q (Nat.zero_le q) hq z.1 z.2)
            have := canG_f (L := L) (kp := (wD σ).1) a1 a2 (by rw [hk b, hns]; decide) 6 hb
            unfold canF at hcf
            rw [this] at hcf; cases hcf)
        rw [this] at hany; cases hany
    have e := h3.2 hc v hv
    show _ = upR (hRec σ (heardF σ) L (nn σ)).1 6 (fun _ => 1000) 6 v ∧ (upR (hRec σ (heardF σ) L (nn σ)).1 6 (fun _ => 1000) 6 v < 1000 → _)
    rw [upR_s]
    exact ⟨e, fun z => by omega⟩
  · have hany : anyB (hRec σ (heardF σ) L (nn σ)).2.2 6 = false := by cases hx : anyB (hRec σ (heardF σ) L (nn σ)).2.2 6; { rfl }; { exact absurd hx hany }
    rw [hFin_f hany]
    have hc : canF σ L = true := by
      refine canG_t 6 (fun b hb => ?_)
      have hb0 : (hRec σ (heardF σ) L (nn σ)).2.2 b = false := by
        cases hx : (hRec σ (heardF σ) L (nn σ)).2.2 b with
        | false => rfl
        | true => rw [anyB_t hb hx] at hany; cases hany
      by_cases c1 : te σ b = none
      · exact Or.inl c1
      · by_cases c2 : (b : Int) = L
        · exact Or.inr (Or.inl c2)
        · refine Or.inr (Or.inr ?_)
          rw [hk b]
          refine decide_eq_true (fun z => ?_)
          have := (h2 b hb rfl).mpr ⟨c1, c2, fun q _ hq hH hh => src_none (nn σ) hn z q hq ⟨hH, hh⟩⟩
          rw [hb0] at this; cases this
    have e := h3.1 hc v hv
    exact ⟨e.1.symm, fun z => (e.2 z).symm⟩
