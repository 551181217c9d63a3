/-! costs by parts: the reference's fold -/
def srcG (σ : SG) (H : Nat → Bool) (s : Nat) : Nat → Nat
  | 0 => 16
  | k + 1 => if H k = true ∧ he σ k = s then k else srcG σ H s k
theorem srcG_s (σ : SG) (H : Nat → Bool) (s k : Nat) : srcG σ H s (k + 1) = if H k = true ∧ he σ k = s then k else srcG σ H s k := rfl
theorem srcG_b (σ : SG) (H : Nat → Bool) (s : Nat) : ∀ k, srcG σ H s k = 16 ∨ (srcG σ H s k < k ∧ H (srcG σ H s k) = true ∧ he σ (srcG σ H s k) = s)
  | 0 => Or.inl rfl
  | k + 1 => by
    rw [srcG_s]
    split
    · rename_i h; exact Or.inr ⟨by omega, h.1, h.2⟩
    · rcases srcG_b σ H s k with h | h
      · exact Or.inl h
      · exact Or.inr ⟨by omega, h.2⟩
def srcF (σ : SG) (H : Nat → Bool) (p : Nat) : Nat := if sp' σ p = 6 then 16 else srcG σ H (sp' σ p) p
theorem srcF_b {σ : SG} {H : Nat → Bool} {p : Nat} (hp : p < 16) : srcF σ H p ≤ 16 ∧ srcF σ H p ≠ p := by
  unfold srcF
  split
  · omega
  · rcases srcG_b σ H (sp' σ p) p with h | h <;> omega
def lstB (σ : SG) (H : Nat → Bool) (p q : Nat) : Bool := decide (p < q) && H q && decide (he σ q = he σ p)
def lstF (σ : SG) (H : Nat → Bool) (p : Nat) : Bool := !(anyB (lstB σ H p) (nn σ))
abbrev FW : Type := (Nat → Nat → Int) × (Nat → Nat → Int)
def hgC (X : FW) (so p on v : Nat) : Int := cap (X.1 on v + (wg (X.1 p) (X.2 p) so v).1)
def hgN (X : FW) (so p on v : Nat) : Int := w64 (X.2 on v * (if hgC X so p on v < 1000 then (wg (X.1 p) (X.2 p) so v).2 else 0))
def hng (X : FW) (so p on : Nat) : FW := (upR X.1 on (hgC X so p on), upR X.2 on (hgN X so p on))
/-- half done: the sayings below k -/
def hngK (X : FW) (so p on k : Nat) : FW := (upR X.1 on (fun v => if v < k then hgC X so p on v else X.1 on v), upR X.2 on (fun v => if v < k then hgN X so p on v else X.2 on v))
def RW (r l : Nat → Int) (X : FW) : Prop := ∀ p, p ≤ 16 → ∀ v, v < 364 → r (364 * p + v) = X.1 p v ∧ l (364 * p + v) = X.2 p v
theorem RW_0 {r l : Nat → Int} {X : FW} {so p on : Nat} (h : RW r l X) : RW r l (hngK X so p on 0) := by
  intro q hq v hv
  have e := h q hq v hv
  show _ = upR X.1 on _ q v ∧ _ = upR X.2 on _ q v
  by_cases c : q = on
  · rw [c, upR_s, upR_s, if_neg (by omega), if_neg (by omega), ← c]; exact e
  · rw [upR_n c, upR_n c]; exact e
theorem hngK_p {X : FW} {so p on k v : Nat} (h : p ≠ on) : (hngK X so p on k).1 p v = X.1 p v ∧ (hngK X so p on k).2 p v = X.2 p v := by
  show upR X.1 on _ p v = _ ∧ upR X.2 on _ p v = _
  rw [upR_n h, upR_n h]; exact ⟨rfl, rfl⟩
theorem hngK_o {X : FW} {so p on k : Nat} : (hngK X so p on k).1 on k = X.1 on k ∧ (hngK X so p on k).2 on k = X.2 on k := by
  show upR X.1 on _ on k = _ ∧ upR X.2 on _ on k = _
  rw [upR_s, upR_s, if_neg (by omega), if_neg (by omega)]; exact ⟨rfl, rfl⟩
theorem RW_k {r l : Nat → Int} {X : FW} {so p on k : Nat} {x y : Int} (h : RW r l (hngK X so p on k)) (ho : on ≤ 16) (hk : k < 364) (hx : x = hgC X so p on k) (hy : y = hgN X so p on k) : RW (updF r (364 * on + k) x) (updF l (364 * on + k) y) (hngK X so p on (k + 1)) := by
  intro q hq v hv
  have e := h q hq v hv
  show _ = upR X.1 on (fun v => if v < k + 1 then hgC X so p on v else X.1 on v) q v ∧ _ = upR X.2 on (fun v => if v < k + 1 then hgN X so p on v else X.2 on v) q v
  by_cases c : q = on
  · subst c
    rw [upR_s, upR_s]
    by_cases d : v = k
    · subst d
      rw [updF_s, updF_s, if_pos (by omega), if_pos (by omega)]; exact ⟨hx, hy⟩
    · rw [updF_n (by omega), updF_n (by omega)]
      have e1 : r (364 * q + v) = upR X.1 q (fun v => if v < k then hgC X so p q v else X.1 q v) q v ∧ l (364 * q + v) = upR X.2 q (fun v => if v < k then hgN X so p q v else X.2 q v) q v := e
      rw [upR_s, upR_s] at e1
      rw [e1.1, e1.2]
      by_cases f : v < k
      · rw [if_pos f, if_pos f, if_pos (by omega), if_pos (by omega)]; exact ⟨rfl, rfl⟩
      · rw [if_neg f, if_neg f, if_neg (by omega), if_neg (by omega)]; exact ⟨rfl, rfl⟩
  · rw [updF_n (by omega), updF_n (by omega), upR_n c, upR_n c]
    have e1 : r (364 * q + v) = upR X.1 on (fun v => if v < k then hgC X so p on v else X.1 on v) q v ∧ l (364 * q + v) = upR X.2 on (fun v => if v < k then hgN X so p on v else X.2 on v) q v := e
    rw [upR_n c, upR_n c] at e1
    exact e1
theorem RW_e {r l : Nat → Int} {X : FW} {so p on : Nat} (h : RW r l (hngK X so p on 364)) : RW r l (hng X so p on) := by
  intro q hq v hv
  have e := h q hq v hv
  have e1 : r (364 * q + v) = upR X.1 on (fun v => if v < 364 then hgC X so p on v else X.1 on v) q v ∧ l (364 * q + v) = upR X.2 on (fun v => if v < 364 then hgN X so p on v else X.2 on v) q v := e
  show _ = upR X.1 on (hgC X so p on) q v ∧ _ = upR X.2 on (hgN X so p on) q v
  by_cases c : q = on
  · rw [c, upR_s, upR_s] at e1 ⊢
    rw [if_pos hv, if_pos hv] at e1
    exact e1
  · rw [upR_n c, upR_n c] at e1 ⊢; exact e1
def BdW (X : FW) : Prop := ∀ p, p ≤ 16 → ∀ v, v < 364 → 0 ≤ X.1 p v ∧ X.1 p v ≤ 1000
theorem BdW_h {X : FW} {so p on : Nat} (h : BdW X) (hp : p ≤ 16) (ho : on ≤ 16) (hso : so ≤ 4) : BdW (hng X so p on) := by
  intro q hq v hv
  show 0 ≤ upR X.1 on (hgC X so p on) q v ∧ upR X.1 on (hgC X so p on) q v ≤ 1000
  by_cases c : q = on
  · rw [c, upR_s]
    have h1 := h on ho v hv
    have h2 := wg_b (n := X.2 p) hso hv (h p hp)
    exact cap_b (by omega)
  · rw [upR_n c]; exact h q hq v hv
def fitB (σ : SG) (H : Nat → Bool) (L : Int) (can : Bool) (p v : Nat) : Bool :=
  if p < nn σ ∧ H p = true ∧ lstF σ H p = true then decide (te σ (he σ p) = none ∨ (he σ p : Int) = L ∨ te σ (he σ p) = some v) else (decide (p < 16) || can)
def canG (σ : SG) (L : Int) (kp : Nat → Option Nat) : Nat → Bool
  | 0 => true
  | b + 1 => canG σ L kp b && (decide (te σ b = none ∨ (b : Int) = L) || (kp b).isSome)
def canF (σ : SG) (L : Int) : Bool := canG σ L (wD σ).1 6
def rI' (σ : SG) (L : Int) : FW := (fun p v => if fitB σ (heardF σ) L (canF σ L) p v then 0 else 1000, fun p v => if fitB σ (heardF σ) L (canF σ L) p v then 1 else 0)
def rRec (σ : SG) (L : Int) : Nat → FW
  | 0 => rI' σ L
  | i + 1 => if heardF σ (nn σ - 1 - i) then hng (rRec σ L i) (so σ (he σ (nn σ - 1 - i))) (nn σ - 1 - i) (srcF σ (heardF σ) (nn σ - 1 - i)) else rRec σ L i
theorem rRec_k {σ : SG} {L : Int} {k : Nat} (h1 : 1 ≤ k) (h2 : k ≤ nn σ) : rRec σ L (nn σ - (k - 1)) = if heardF σ (k - 1) then hng (rRec σ L (nn σ - k)) (so σ (he σ (k - 1))) (k - 1) (srcF σ (heardF σ) (k - 1)) else rRec σ L (nn σ - k) := by
  rw [show nn σ - (k - 1) = (nn σ - k) + 1 by omega]
  show (if _ then _ else _) = _
  rw [show nn σ - 1 - (nn σ - k) = k - 1 by omega]
theorem BdW_r {σ : SG} {L : Int} (hs : WF σ) : ∀ i, i ≤ nn σ → BdW (rRec σ L i)
  | 0, _ => fun p hp v hv => by
    show 0 ≤ (if _ then _ else _ : Int) ∧ (if _ then _ else _ : Int) ≤ 1000
    split <;> omega
  | i + 1, hi => by
    have ih := BdW_r (L := L) hs i (by omega)
    have hn := hs.2.2.1
    have hp := hs.2.2.2.1 (nn σ - 1 - i) (by omega)
    show BdW (if _ then _ else _)
    split
    · exact BdW_h ih (by omega) (srcF_b (by omega)).1 (hs.1 _ (by omega))
    · exact ih
def RIp (r l : Nat → Int) (σ : SG) (L : Int) (p v : Nat) : Prop := ∀ q, q ≤ 16 → ∀ u, u < 364 → (q < p ∨ (q = p ∧ u < v)) → r (364 * q + u) = (rI' σ L).1 q u ∧ l (364 * q + u) = (rI' σ L).2 q u
theorem RIp_t {r l : Nat → Int} {σ : SG} {L : Int} {p v : Nat} (h : RIp r l σ L p v) (hv : v < 364) (hf : fitB σ (heardF σ) L (canF σ L) p v = true) : RIp (updF r (364 * p + v) 0) (updF l (364 * p + v) 1) σ L p (v + 1) := by
  intro q hq u hu hd
  by_cases c : q = p ∧ u = v
  · rw [c.1, c.2, updF_s, updF_s]
    show 0 = (if _ then _ else _ : Int) ∧ 1 = (if _ then _ else _ : Int)
    rw [if_pos hf, if_pos hf]; exact ⟨rfl, rfl⟩
  · rw [updF_n (by omega), updF_n (by omega)]; exact h q hq u hu (by omega)
theorem RIp_f {r l : Nat → Int} {σ : SG} {L : Int} {p v : Nat} (h : RIp r l σ L p v) (hv : v < 364) (hf : fitB σ (heardF σ) L (canF σ L) p v = false) : RIp (updF r (364 * p + v) 1000) (updF l (364 * p + v) 0) σ L p (v + 1) := by
  intro q hq u hu hd
  by_cases c : q = p ∧ u = v
  · rw [c.1, c.2, updF_s, updF_s]
    show 1000 = (if _ then _ else _ : Int) ∧ 0 = (if _ then _ else _ : Int)
    rw [if_neg (by rw [hf]; decide), if_neg (by rw [hf]; decide)]; exact ⟨rfl, rfl⟩
  · rw [updF_n (by omega), updF_n (by omega)]; exact h q hq u hu (by omega)
theorem canG_s (σ : SG) (L : Int) (kp : Nat → Option Nat) (b : Nat) : canG σ L kp (b + 1) = (canG σ L kp b && (decide (te σ b = none ∨ (b : Int) = L) || (kp b).isSome)) := rfl
theorem encM_v {o : Option Nat} {v : Nat} : encM o = (v : Nat) ↔ o = some v := by
  cases o with
  | none => show -6 = ((v : Nat) : Int) ↔ _; constructor; { intro h; omega }; { intro h; cases h }
  | some w => show ((w : Nat) : Int) = ((v : Nat) : Int) ↔ _; constructor; { intro h; congr 1; omega }; { intro h; cases h; rfl }
