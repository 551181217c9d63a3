/-! the court: sorts, who speaks, who hears, digits, parts, bargain, rare, testimony -/
abbrev SG : Type := (Nat → Nat) × (Nat → Nat) × (Nat → Nat) × (Nat → Nat) × Nat × Nat × Nat × (Nat → Option Nat)
def so (σ : SG) : Nat → Nat := σ.1
def sp' (σ : SG) : Nat → Nat := σ.2.1
def he (σ : SG) : Nat → Nat := σ.2.2.1
def di (σ : SG) : Nat → Nat := σ.2.2.2.1
def nn (σ : SG) : Nat := σ.2.2.2.2.1
def bg (σ : SG) : Nat := σ.2.2.2.2.2.1
def ra (σ : SG) : Nat := σ.2.2.2.2.2.2.1
def te (σ : SG) : Nat → Option Nat := σ.2.2.2.2.2.2.2
/-- a saying or none, as the class writes it (-1), as the reference does (-6) -/
def encC : Option Nat → Int
  | none => -1
  | some v => (v : Nat)
def encM : Option Nat → Int
  | none => -6
  | some v => (v : Nat)
def b2i (b : Bool) : Int := if b then 1 else 0
theorem b2i_t : b2i true = 1 := rfl
theorem b2i_f : b2i false = 0 := rfl
theorem b2i_01 (b : Bool) : b2i b = 0 ∨ b2i b = 1 := by cases b <;> simp [b2i]
theorem b2i_0 {b : Bool} : b2i b = 0 ↔ b = false := by cases b <;> simp [b2i]
theorem encC_none {o : Option Nat} : encC o = -1 ↔ o = none := by cases o <;> simp [encC] <;> omega
theorem encM_none {o : Option Nat} : encM o < 0 ↔ o = none := by cases o <;> simp [encM] <;> omega
theorem encC_some {o : Option Nat} (h : ¬ encC o = -1) : ∃ v, o = some v := by cases o with
  | none => exact absurd rfl h
  | some v => exact ⟨v, rfl⟩
/-- the court's rows hold σ (c: the court's place) -/
def WF (σ : SG) : Prop := (∀ b, b < 6 → so σ b ≤ 4) ∧ (∀ b, b < 6 → ∀ v, te σ b = some v → v < 364) ∧ nn σ ≤ 16 ∧ (∀ p, p < nn σ → sp' σ p ≤ 7 ∧ he σ p ≤ 5 ∧ di σ p ≤ 9 ∧ sp' σ p ≠ he σ p) ∧ bg σ < 364 ∧ 1 ≤ ra σ ∧ ra σ ≤ 99
def CR (hi : HI) (c : Nat) (σ : SG) : Prop := WF σ ∧ (∀ b, b < 6 → hi (c + 1) b = (so σ b : Nat)) ∧ (∀ b, b < 6 → hi (c + 2) b = encC (te σ b)) ∧ hi (c + 3) 3 = (nn σ : Nat) ∧ (∀ p, p < nn σ → hi (c + 4) p = (sp' σ p : Nat) ∧ hi (c + 5) p = (he σ p : Nat) ∧ hi (c + 6) p = (di σ p : Nat)) ∧ hi c 3 = (bg σ : Nat) ∧ hi c 4 = (ra σ : Nat)
/-- a day's state: what each keeps, which parts were heard, who is silent -/
abbrev WS : Type := (Nat → Option Nat) × (Nat → Bool) × Nat
def ansB (σ : SG) (w : WS) (p : Nat) : Bool := decide (0 < p) && w.2.1 (p - 1) && (sp' σ (p - 1) == he σ p) && (he σ (p - 1) == sp' σ p)
def hearsB (σ : SG) (first : Bool) (w : WS) (p : Nat) : Bool :=
  if sp' σ p = 6 then first else if sp' σ p = 7 then false
  else (w.1 (sp' σ p)).isSome && !(w.2.2.testBit (sp' σ p)) && (so σ (sp' σ p) != 4 || ansB σ w p)
def siF (σ : SG) (w : WS) (p : Nat) : Nat := if sp' σ p = 7 then w.2.2 ^^^ (1 * 2 ^ he σ p) else w.2.2
def saidF (σ : SG) (b : Nat) (w : WS) (p : Nat) : Nat := if sp' σ p = 6 then b else (w.1 (sp' σ p)).getD 0
def wstep (σ : SG) (b : Nat) (first : Bool) (by_ : Nat) (w : WS) (p : Nat) : WS :=
  (if hearsB σ first w p then updF w.1 (he σ p) (some (nth (so σ (he σ p)) (saidF σ b w p) by_)) else w.1, updF w.2.1 p (hearsB σ first w p), siF σ w p)
def wrun (σ : SG) (b : Nat) (first : Bool) (bys : Nat → Nat) (w0 : WS) : Nat → WS
  | 0 => w0
  | p + 1 => wstep σ b first (bys p) (wrun σ b first bys w0 p) p
def wZ : WS := (fun _ => none, fun _ => false, 0)
/-- the day's end, by its digits -/
def wD (σ : SG) : WS := wrun σ (bg σ) true (di σ) wZ (nn σ)
def nx (x : Nat) : Nat := (75 * x + 74) % 65537
def drawF (σ : SG) (w : WS) (p x : Nat) : Nat × Nat :=
  if 1 ≤ so σ (he σ p) ∧ so σ (he σ p) ≤ 3 then
    (if nx x % ra σ ≠ 0 then (0, nx x) else (if slN (so σ (he σ p)) (saidF σ (bg σ) w p) = 0 then 0 else 1 + nx (nx x) % slN (so σ (he σ p)) (saidF σ (bg σ) w p), nx (nx x)))
  else (0, x)
def ystep (σ : SG) (first : Bool) (y : WS × Nat) (p : Nat) : WS × Nat :=
  if hearsB σ first y.1 p then (wstep σ (bg σ) first (drawF σ y.1 p y.2).1 y.1 p, (drawF σ y.1 p y.2).2) else (wstep σ (bg σ) first 0 y.1 p, y.2)
def yday (σ : SG) (first : Bool) (y0 : WS × Nat) : Nat → WS × Nat
  | 0 => ((y0.1.1, y0.1.2.1, 0), y0.2)
  | p + 1 => ystep σ first (yday σ first y0 p) p
/-- behind d days -/
def yrun (σ : SG) (x : Nat) : Nat → WS × Nat
  | 0 => (wZ, x)
  | d + 1 => yday σ (d == 0) (yrun σ x d) (nn σ)
/-- what is kept are sayings -/
def okW (w : WS) : Prop := (∀ b v, w.1 b = some v → v < 364) ∧ w.2.2 < 64
/-- the walk's rows hold w, its parts below p -/
def WR (r33 r34 r35 : Nat → Int) (w : WS) (p : Nat) : Prop := okW w ∧ (∀ b, b < 6 → r34 b = encC (w.1 b)) ∧ (∀ j, j < p → r35 j = b2i (w.2.1 j)) ∧ r33 2 = (w.2.2 : Nat)
theorem updF_id {α : Type} {f : Nat → α} {n : Nat} {x : α} (h : f n = x) : updF f n x = f := by
  funext j
  unfold updF
  split
  · rename_i e; rw [e, h]
  · rfl
theorem hB_X {σ : SG} {first : Bool} {w : WS} {p : Nat} (h : sp' σ p = 6) : hearsB σ first w p = first := by unfold hearsB; rw [if_pos h]
theorem hB_m {σ : SG} {first : Bool} {w : WS} {p : Nat} (h : sp' σ p = 7) : hearsB σ first w p = false := by unfold hearsB; rw [if_neg (by omega), if_pos h]
theorem hB_n {σ : SG} {first : Bool} {w : WS} {p : Nat} (h : sp' σ p < 6) (h2 : w.1 (sp' σ p) = none) : hearsB σ first w p = false := by unfold hearsB; rw [if_neg (by omega), if_neg (by omega), h2]; rfl
theorem hB_s {σ : SG} {first : Bool} {w : WS} {p : Nat} (h : sp' σ p < 6) (h2 : w.2.2.testBit (sp' σ p) = true) : hearsB σ first w p = false := by unfold hearsB; rw [if_neg (by omega), if_neg (by omega), h2]; simp
theorem hB_y {σ : SG} {first : Bool} {w : WS} {p v : Nat} (h : sp' σ p < 6) (h1 : w.1 (sp' σ p) = some v) (h2 : w.2.2.testBit (sp' σ p) = false) : hearsB σ first w p = (so σ (sp' σ p) != 4 || ansB σ w p) := by unfold hearsB; rw [if_neg (by omega), if_neg (by omega), h1, h2]; rfl
theorem hB_heard {σ : SG} {first : Bool} {w : WS} {p : Nat} (hp : sp' σ p ≤ 7) (h : hearsB σ first w p = true) : sp' σ p = 6 ∨ (sp' σ p < 6 ∧ ∃ v, w.1 (sp' σ p) = some v) := by
  by_cases e6 : sp' σ p = 6
  · exact Or.inl e6
  · by_cases e7 : sp' σ p = 7
    · rw [hB_m e7] at h; cases h
    · right
      refine ⟨by omega, ?_⟩
      cases hv : w.1 (sp' σ p) with
      | none => rw [hB_n (by omega) hv] at h; cases h
      | some v => exact ⟨v, rfl⟩
theorem bit1 (x k : Nat) : x / 2 ^ k &&& 1 = if x.testBit k then 1 else 0 := by
  rw [Nat.and_one_is_mod, ← Nat.toNat_testBit]
  cases x.testBit k <;> rfl
theorem said_lt {σ : SG} {b : Nat} {w : WS} {p : Nat} (hb : b < 364) (hw : okW w) : saidF σ b w p < 364 := by
  unfold saidF
  split
  · exact hb
  · cases h : w.1 (sp' σ p) with
    | none => show 0 < 364; omega
    | some v => exact hw.1 _ v h
theorem siF_lt {σ : SG} {w : WS} {p : Nat} (hw : okW w) (hp : he σ p ≤ 5) : siF σ w p < 64 := by
  have h64 : 64 = 2 ^ 6 := rfl
  unfold siF
  split
  · rw [h64]
    refine Nat.xor_lt_two_pow hw.2 ?_
    have := Nat.pow_le_pow_right (show 0 < 2 by omega) hp
    omega
  · exact hw.2
theorem okW_step {σ : SG} {b : Nat} {first : Bool} {by_ : Nat} {w : WS} {p : Nat} (hs : WF σ) (hp : p < nn σ) (hb : b < 364) (hw : okW w) : okW (wstep σ b first by_ w p) := by
  have hh := hs.2.2.2.1 p hp
  refine ⟨fun x v hv => ?_, siF_lt hw hh.2.1⟩
  have hv : (if hearsB σ first w p then updF w.1 (he σ p) (some (nth (so σ (he σ p)) (saidF σ b w p) by_)) else w.1) x = some v := hv
  by_cases hB : hearsB σ first w p = true
  · rw [if_pos hB] at hv
    by_cases e : x = he σ p
    · rw [e, updF_s] at hv
      cases hv
      exact nth_lt (hs.1 _ (by omega)) (said_lt hb hw)
    · rw [updF_n e] at hv; exact hw.1 x v hv
  · rw [if_neg hB] at hv; exact hw.1 x v hv
theorem okW_Z : okW wZ := ⟨fun b v h => (by cases h), by decide⟩
theorem okW_run {σ : SG} {b : Nat} {first : Bool} {bys : Nat → Nat} (hs : WF σ) (hb : b < 364) : ∀ p, p ≤ nn σ → okW (wrun σ b first bys wZ p)
  | 0, _ => okW_Z
  | p + 1, h => okW_step hs (by omega) hb (okW_run hs hb p (by omega))
theorem nx_lt (x : Nat) : nx x < 65537 := Nat.mod_lt _ (by decide)
theorem okW_ystep {σ : SG} {first : Bool} {y : WS × Nat} {p : Nat} (hs : WF σ) (hp : p < nn σ) (hw : okW y.1) : okW (ystep σ first y p).1 := by
  unfold ystep
  split <;> exact okW_step hs hp hs.2.2.2.2.1 hw
theorem okW_yday {σ : SG} {first : Bool} {y : WS × Nat} (hs : WF σ) (hw : okW y.1) : ∀ p, p ≤ nn σ → okW (yday σ first y p).1
  | 0, _ => ⟨hw.1, by show 0 < 64; omega⟩
  | p + 1, h => okW_ystep hs (by omega) (okW_yday hs hw p (by omega))
theorem okW_yrun {σ : SG} {x : Nat} (hs : WF σ) : ∀ d, okW (yrun σ x d).1
  | 0 => okW_Z
  | d + 1 => okW_yday hs (okW_yrun hs d) _ (Nat.le_refl _)
theorem draw_lt {σ : SG} {w : WS} {p x : Nat} (hx : x < 65537) : (drawF σ w p x).2 < 65537 := by
  unfold drawF
  split
  · split <;> exact nx_lt _
  · exact hx
theorem ystep_lt {σ : SG} {first : Bool} {y : WS × Nat} {p : Nat} (hx : y.2 < 65537) : (ystep σ first y p).2 < 65537 := by
  unfold ystep
  split
  · exact draw_lt hx
  · exact hx
theorem yday_lt {σ : SG} {first : Bool} {y : WS × Nat} (hx : y.2 < 65537) : ∀ p, (yday σ first y p).2 < 65537
  | 0 => hx
  | p + 1 => ystep_lt (yday_lt hx p)
theorem yrun_lt {σ : SG} {x : Nat} (hx : x < 65537) : ∀ d, (yrun σ x d).2 < 65537
  | 0 => hx
  | d + 1 => yday_lt (yrun_lt hx d) _
theorem ansB_iff {σ : SG} {w : WS} {p : Nat} : ansB σ w p = true ↔ (0 < p ∧ w.2.1 (p - 1) = true ∧ sp' σ (p - 1) = he σ p ∧ he σ (p - 1) = sp' σ p) := by
  unfold ansB
  simp only [Bool.and_eq_true, decide_eq_true_eq, beq_iff_eq]
  constructor
  · rintro ⟨⟨⟨a, b⟩, c⟩, d⟩; exact ⟨a, b, c, d⟩
  · rintro ⟨a, b, c, d⟩; exact ⟨⟨⟨a, b⟩, c⟩, d⟩
theorem ansB_f {σ : SG} {w : WS} {p : Nat} (h : ¬ (0 < p ∧ w.2.1 (p - 1) = true ∧ sp' σ (p - 1) = he σ p ∧ he σ (p - 1) = sp' σ p)) : ansB σ w p = false := by
  cases e : ansB σ w p with
  | false => rfl
  | true => exact absurd (ansB_iff.mp e) h
theorem bt_true {x k : Nat} (h : ¬ ((x / 2 ^ k &&& 1 : Nat) : Int) = 0) : x.testBit k = true := by
  have e := bit1 x k
  cases hb : x.testBit k with
  | true => rfl
  | false => rw [hb, if_neg (by decide)] at e; rw [e] at h; exact absurd rfl h
theorem bt_false {x k : Nat} (h : ((x / 2 ^ k &&& 1 : Nat) : Int) = 0) : x.testBit k = false := by
  have e := bit1 x k
  cases hb : x.testBit k with
  | false => rfl
  | true => rw [hb, if_pos rfl] at e; rw [e] at h; exact absurd h (by decide)
theorem CR_w {hi : HI} {c : Nat} {σ : SG} (h : CR hi c σ) : WF σ := h.1
theorem WR_step {r33 r34 r35 r33' r34' r35' : Nat → Int} {σ : SG} {b : Nat} {first : Bool} {by_ : Nat} {w : WS} {p : Nat} (hs : WF σ) (hp : p < nn σ) (hb : b < 364) (hW : WR r33 r34 r35 w p) (h1 : r33' 2 = (siF σ w p : Nat)) (h2 : ∀ x, x < 6 → r34' x = encC ((wstep σ b first by_ w p).1 x)) (h3 : r35' p = b2i (hearsB σ first w p)) (h4 : ∀ j, j < p → r35' j = r35 j) : WR r33' r34' r35' (wstep σ b first by_ w p) (p + 1) := by
  refine ⟨okW_step hs hp hb hW.1, h2, fun j hj => ?_, h1⟩
  show r35' j = b2i (updF w.2.1 p (hearsB σ first w p) j)
  by_cases e : j = p
  · rw [e, updF_s, h3]
  · rw [updF_n e, h4 j (by omega), hW.2.2.1 j (by omega)]
theorem WR_no {r33 r34 r35 r33' r35' : Nat → Int} {σ : SG} {b : Nat} {first : Bool} {by_ : Nat} {w : WS} {p : Nat} (hs : WF σ) (hp : p < nn σ) (hb : b < 364) (hW : WR r33 r34 r35 w p) (h1 : r33' 2 = (siF σ w p : Nat)) (h3 : r35' p = b2i (hearsB σ first w p)) (h4 : ∀ j, j < p → r35' j = r35 j) (hn : hearsB σ first w p = false) : WR r33' r34 r35' (wstep σ b first by_ w p) (p + 1) := by
  refine WR_step hs hp hb hW h1 (fun x hx => ?_) h3 h4
  rw [hW.2.1 x hx]
  show encC (w.1 x) = encC ((if hearsB σ first w p then _ else w.1) x)
  rw [hn]; rfl
theorem WR_yes {r33 r34 r35 r33' r35' : Nat → Int} {σ : SG} {b : Nat} {first : Bool} {by_ : Nat} {w : WS} {p : Nat} (hs : WF σ) (hp : p < nn σ) (hb : b < 364) (hW : WR r33 r34 r35 w p) (h1 : r33' 2 = (siF σ w p : Nat)) (h3 : r35' p = b2i (hearsB σ first w p)) (h4 : ∀ j, j < p → r35' j = r35 j) (hn : hearsB σ first w p = true) : WR r33' (updF r34 (he σ p) ((nth (so σ (he σ p)) (saidF σ b w p) by_ : Nat) : Int)) r35' (wstep σ b first by_ w p) (p + 1) := by
  refine WR_step hs hp hb hW h1 (fun x hx => ?_) h3 h4
  show _ = encC ((if hearsB σ first w p then updF w.1 (he σ p) (some (nth (so σ (he σ p)) (saidF σ b w p) by_)) else w.1) x)
  rw [if_pos hn]
  by_cases e : x = he σ p
  · rw [e, updF_s, updF_s]; rfl
  · rw [updF_n e, updF_n e, hW.2.1 x hx]
theorem b2i_T {b : Bool} (h : ¬ b2i b = 0) : b = true := by cases b <;> simp [b2i] at h ⊢
theorem b2i_F {b : Bool} (h : b2i b = 0) : b = false := by cases b <;> simp [b2i] at h ⊢
theorem yst_y {σ : SG} {first : Bool} {y : WS × Nat} {p : Nat} (h : hearsB σ first y.1 p = true) : ystep σ first y p = (wstep σ (bg σ) first (drawF σ y.1 p y.2).1 y.1 p, (drawF σ y.1 p y.2).2) := by unfold ystep; rw [if_pos h]
theorem yst_n {σ : SG} {first : Bool} {y : WS × Nat} {p : Nat} (h : hearsB σ first y.1 p = false) : ystep σ first y p = (wstep σ (bg σ) first 0 y.1 p, y.2) := by unfold ystep; rw [h]; rfl
