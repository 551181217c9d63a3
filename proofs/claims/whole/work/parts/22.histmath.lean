/-! seven rows of a world as one function; histories told from the end back -/
def blk (h : HI) (n : Nat) (C : HI) : HI := fun a => if n ≤ a ∧ a < n + 7 then C (a - n) else h a
theorem blk_in {h C : HI} {n s : Nat} (hs : s < 7) : blk h n C (n + s) = C s := by
  unfold blk
  rw [if_pos (by omega), show n + s - n = s by omega]
theorem blk_id (h : HI) (n : Nat) : blk h n (fun s => h (n + s)) = h := by
  funext a
  unfold blk
  split
  · show h (n + (a - n)) = h a
    rw [show n + (a - n) = a by omega]
  · rfl
theorem blk_eq {h C : HI} {n : Nat} (hC : C = fun s => h (n + s)) : h = blk h n C := by rw [hC]; exact (blk_id h n).symm
theorem ublk {h C C' : HI} {n s v : Nat} {x : Int} (hs : s < 7) (e : up2 C s v x = C') : up2 (blk h n C) (n + s) v x = blk h n C' := by
  subst e
  funext a j
  by_cases ha : a = n + s
  · subst ha
    rw [blk_in hs]
    by_cases hj : j = v
    · subst hj; rw [up2_s, up2_s]
    · rw [up2_j hj, up2_j hj, blk_in hs]
  · rw [up2_a ha]
    unfold blk
    split
    · rw [up2_a (by omega)]
    · rfl
abbrev HS : Type := (Nat → Nat → Int) × (Nat → Nat → Int) × (Nat → Bool)
def wgs (c n : Nat → Int) (so v : Nat) : Nat → Int × Int
  | 0 => (c v, n v)
  | k + 1 => if (wgs c n so v k).1 < c (nth so v (k + 1)) + 1 then wgs c n so v k else (c (nth so v (k + 1)) + 1, if c (nth so v (k + 1)) + 1 < (wgs c n so v k).1 then n (nth so v (k + 1)) else w64 ((wgs c n so v k).2 + n (nth so v (k + 1))))
def wg (c n : Nat → Int) (so v : Nat) : Int × Int := wgs c n so v (slN so v)
theorem wgs_skip {c n : Nat → Int} {so v k : Nat} (h : (wgs c n so v k).1 < c (nth so v (k + 1)) + 1) : wgs c n so v (k + 1) = wgs c n so v k := by show (if _ then _ else _) = _; rw [if_pos h]
theorem wgs_lt {c n : Nat → Int} {so v k : Nat} (h : c (nth so v (k + 1)) + 1 < (wgs c n so v k).1) : wgs c n so v (k + 1) = (c (nth so v (k + 1)) + 1, n (nth so v (k + 1))) := by show (if _ then _ else _) = _; rw [if_neg (by omega), if_pos h]
theorem wgs_eq {c n : Nat → Int} {so v k : Nat} (h : ¬ (wgs c n so v k).1 < c (nth so v (k + 1)) + 1) (h2 : ¬ c (nth so v (k + 1)) + 1 < (wgs c n so v k).1) : wgs c n so v (k + 1) = (c (nth so v (k + 1)) + 1, w64 ((wgs c n so v k).2 + n (nth so v (k + 1)))) := by show (if _ then _ else _) = _; rw [if_neg h, if_neg h2]
theorem wgs_b {c n : Nat → Int} {so v : Nat} (hs : so ≤ 4) (hv : v < 364) (hc : ∀ j, j < 364 → 0 ≤ c j ∧ c j ≤ 1000) : ∀ k, 0 ≤ (wgs c n so v k).1 ∧ (wgs c n so v k).1 ≤ 1000
  | 0 => hc v hv
  | k + 1 => by
    have ih := wgs_b (n := n) hs hv hc k
    have hx := hc (nth so v (k + 1)) (nth_lt hs hv)
    show 0 ≤ (if _ then _ else _ : Int × Int).1 ∧ _
    by_cases h : (wgs c n so v k).1 < c (nth so v (k + 1)) + 1
    · rw [wgs_skip h, if_pos h]; exact ih
    · rw [if_neg h]
      by_cases h2 : c (nth so v (k + 1)) + 1 < (wgs c n so v k).1
      · rw [wgs_lt h2]; dsimp only; omega
      · rw [wgs_eq h h2]; dsimp only; omega
theorem wgs_congr {c n c' n' : Nat → Int} {so v : Nat} (hs : so ≤ 4) (hv : v < 364) (h : ∀ j, j < 364 → c j = c' j ∧ n j = n' j) : ∀ k, wgs c n so v k = wgs c' n' so v k
  | 0 => by show (c v, n v) = (c' v, n' v); rw [(h v hv).1, (h v hv).2]
  | k + 1 => by
    have hx := h (nth so v (k + 1)) (nth_lt hs hv)
    show (if _ then _ else _) = (if _ then _ else _)
    rw [wgs_congr hs hv h k, hx.1, hx.2]
theorem wg_b {c n : Nat → Int} {so v : Nat} (hs : so ≤ 4) (hv : v < 364) (hc : ∀ j, j < 364 → 0 ≤ c j ∧ c j ≤ 1000) : 0 ≤ (wg c n so v).1 ∧ (wg c n so v).1 ≤ 1000 := wgs_b hs hv hc _
theorem wg_congr {c n c' n' : Nat → Int} {so v : Nat} (hs : so ≤ 4) (hv : v < 364) (h : ∀ j, j < 364 → c j = c' j ∧ n j = n' j) : wg c n so v = wg c' n' so v := wgs_congr hs hv h _
/-- what is dearer than 1000 is 1000 -/
def cap (x : Int) : Int := if x < 1000 then x else 1000
def gbC (c n d : Nat → Int) (so v : Nat) : Int := cap (d v + (wg c n so v).1)
def gbN (c n m : Nat → Int) (so v : Nat) : Int := w64 (m v * (wg c n so v).2)
def freeH (S : HS) (s : Nat) : HS := (upR S.1 s (fun _ => 0), upR S.2.1 s (fun _ => 1), updF S.2.2 s false)
def forbH (S : HS) (s : Nat) : HS := (upR S.1 s (fun _ => 1000), upR S.2.1 s (fun _ => 0), updF S.2.2 s true)
def bindH (S : HS) (s w : Nat) : HS := (upR S.1 s (fun v => if v = w then 0 else 1000), upR S.2.1 s (fun v => if v = w then 1 else 0), updF S.2.2 s true)
def gbH (S : HS) (s h so : Nat) : HS := if S.2.2 h then freeH (upR S.1 s (gbC (S.1 h) (S.2.1 h) (S.1 s) so), upR S.2.1 s (gbN (S.1 h) (S.2.1 h) (S.2.1 s) so), updF S.2.2 s true) h else S
def hZ : HS := (fun _ _ => 0, fun _ _ => 1, fun _ => false)
def hI (σ : SG) (L : Int) : Nat → HS
  | 0 => hZ
  | k + 1 => match te σ k with
    | none => hI σ L k
    | some w => if (k : Int) = L then hI σ L k else bindH (hI σ L k) k w
def hRec (σ : SG) (H : Nat → Bool) (L : Int) : Nat → HS
  | 0 => hI σ L 6
  | i + 1 => if H (nn σ - 1 - i) then gbH (hRec σ H L i) (sp' σ (nn σ - 1 - i)) (he σ (nn σ - 1 - i)) (so σ (he σ (nn σ - 1 - i))) else hRec σ H L i
def anyB (f : Nat → Bool) : Nat → Bool
  | 0 => false
  | k + 1 => anyB f k || f k
def hFin (σ : SG) (H : Nat → Bool) (L : Int) : HS := if anyB (hRec σ H L (nn σ)).2.2 6 then forbH (hRec σ H L (nn σ)) 6 else hRec σ H L (nn σ)
/-- rows that hold S -/
def AgH (C N : HI) (B : Nat → Int) (S : HS) : Prop := ∀ s, s ≤ 6 → B s = b2i (S.2.2 s) ∧ ∀ v, v < 364 → C s v = S.1 s v ∧ N s v = S.2.1 s v
def BdH (S : HS) : Prop := ∀ s, s ≤ 6 → ∀ v, v < 364 → 0 ≤ S.1 s v ∧ S.1 s v ≤ 1000
theorem cap_b {x : Int} (h : 0 ≤ x) : 0 ≤ cap x ∧ cap x ≤ 1000 := by unfold cap; split <;> omega
theorem BdH_up {S : HS} {s : Nat} {g : Nat → Int} {m : Nat → Nat → Int} {b : Nat → Bool} (h : BdH S) (hg : ∀ v, v < 364 → 0 ≤ g v ∧ g v ≤ 1000) : BdH (upR S.1 s g, m, b) := by
  intro t ht v hv
  show 0 ≤ upR S.1 s g t v ∧ upR S.1 s g t v ≤ 1000
  by_cases e : t = s
  · rw [e, upR_s]; exact hg v hv
  · rw [upR_n e]; exact h t ht v hv
theorem BdH_gb {S : HS} {s h so : Nat} (hS : BdH S) (hs : s ≤ 6) (hh : h ≤ 6) (hso : so ≤ 4) : BdH (gbH S s h so) := by
  unfold gbH
  split
  · exact BdH_up (S := (upR S.1 s (gbC (S.1 h) (S.2.1 h) (S.1 s) so), _, _)) (BdH_up (m := S.2.1) (b := S.2.2) hS (fun v hv => cap_b (by have := wg_b (n := S.2.1 h) hso hv (hS h hh); have := hS s hs v hv; omega))) (fun v hv => by omega)
  · exact hS
theorem BdH_I (σ : SG) (L : Int) : ∀ k, BdH (hI σ L k)
  | 0 => fun s hs v hv => by show 0 ≤ (0 : Int) ∧ (0 : Int) ≤ 1000; omega
  | k + 1 => by
    show BdH (match te σ k with | none => hI σ L k | some w => if (k : Int) = L then hI σ L k else bindH (hI σ L k) k w)
    split
    · exact BdH_I σ L k
    · split
      · exact BdH_I σ L k
      · exact BdH_up (BdH_I σ L k) (fun v hv => by split <;> omega)
def HOK (σ : SG) (H : Nat → Bool) : Prop := ∀ p, p < nn σ → H p = true → sp' σ p ≤ 6
theorem BdH_rec {σ : SG} {H : Nat → Bool} {L : Int} (hs : WF σ) (hH : HOK σ H) : ∀ i, i ≤ nn σ → BdH (hRec σ H L i)
  | 0, _ => BdH_I σ L 6
  | i + 1, hi => by
    have ih := BdH_rec (L := L) hs hH i (by omega)
    have hp := hs.2.2.2.1 (nn σ - 1 - i) (by omega)
    show BdH (if _ then _ else _)
    split
    · rename_i e
      exact BdH_gb ih (hH _ (by omega) e) (by omega) (hs.1 _ (by omega))
    · exact ih
theorem AgH_w {C N : HI} {B : Nat → Int} {S : HS} (h : AgH C N B S) (hb : BdH S) : ∀ s, s ≤ 6 → ∀ v, v < 364 → 0 ≤ C s v ∧ C s v ≤ 1000 := by
  intro s hs v hv
  rw [((h s hs).2 v hv).1]; exact hb s hs v hv
theorem AgH_up {C N : HI} {B : Nat → Int} {S : HS} {s : Nat} {g m g' m' : Nat → Int} {x : Int} {b : Bool} (h : AgH C N B S) (hg : ∀ v, v < 364 → g v = g' v ∧ m v = m' v) (hx : x = b2i b) : AgH (upR C s g) (upR N s m) (updF B s x) (upR S.1 s g', upR S.2.1 s m', updF S.2.2 s b) := by
  intro t ht
  show updF B s x t = b2i (updF S.2.2 s b t) ∧ ∀ v, v < 364 → upR C s g t v = upR S.1 s g' t v ∧ upR N s m t v = upR S.2.1 s m' t v
  by_cases e : t = s
  · subst e
    rw [updF_s, updF_s]
    refine ⟨hx, fun v hv => ?_⟩
    rw [upR_s, upR_s, upR_s, upR_s]; exact hg v hv
  · rw [updF_n e, updF_n e]
    refine ⟨(h t ht).1, fun v hv => ?_⟩
    rw [upR_n e, upR_n e, upR_n e, upR_n e]; exact (h t ht).2 v hv
theorem AgH_ext {C N C' N' : HI} {B : Nat → Int} {S : HS} (h : AgH C N B S) (e : ∀ s, s ≤ 6 → ∀ v, v < 364 → C' s v = C s v ∧ N' s v = N s v) : AgH C' N' B S := fun s hs => ⟨(h s hs).1, fun v hv => by rw [(e s hs v hv).1, (e s hs v hv).2]; exact (h s hs).2 v hv⟩
/-- the least of c below k, 1000 at most -/
def mnF (c : Nat → Int) : Nat → Int
  | 0 => 1000
  | k + 1 => if c k < mnF c k then c k else mnF c k
theorem mnF_s (c : Nat → Int) (k : Nat) : mnF c (k + 1) = if c k < mnF c k then c k else mnF c k := rfl
theorem mnF_b {c : Nat → Int} (hc : ∀ v, v < 364 → 0 ≤ c v ∧ c v ≤ 1000) : ∀ k, k ≤ 364 → 0 ≤ mnF c k ∧ mnF c k ≤ 1000
  | 0, _ => by show 0 ≤ (1000 : Int) ∧ (1000 : Int) ≤ 1000; omega
  | k + 1, h => by
    have := mnF_b hc k (by omega); have := hc k (by omega); rw [mnF_s]; split <;> omega
theorem mnF_congr {c d : Nat → Int} (h : ∀ v, v < 364 → c v = d v) : ∀ k, k ≤ 364 → mnF c k = mnF d k
  | 0, _ => rfl
  | k + 1, hk => by rw [mnF_s, mnF_s, mnF_congr h k (by omega), h k (by omega)]
/-- from 363 down: how many cost m, the least of them, their sum -/
def tlF (c n : Nat → Int) (m z : Int) : Nat → Int × Int × Int
  | 0 => (0, z, 0)
  | i + 1 => if c (363 - i) = m then ((tlF c n m z i).1 + 1, ((363 - i : Nat) : Int), w64 ((tlF c n m z i).2.2 + n (363 - i))) else tlF c n m z i
theorem tlF_s (c n : Nat → Int) (m z : Int) (i : Nat) : tlF c n m z (i + 1) = if c (363 - i) = m then ((tlF c n m z i).1 + 1, ((363 - i : Nat) : Int), w64 ((tlF c n m z i).2.2 + n (363 - i))) else tlF c n m z i := rfl
theorem tlF_b (c n : Nat → Int) (m z : Int) : ∀ i, 0 ≤ (tlF c n m z i).1 ∧ (tlF c n m z i).1 ≤ i
  | 0 => by show 0 ≤ (0 : Int) ∧ (0 : Int) ≤ ((0 : Nat) : Int); omega
  | i + 1 => by
    have := tlF_b c n m z i
    rw [tlF_s]; split
    · dsimp only; omega
    · omega
theorem tlF_congr {c n d q : Nat → Int} {m z : Int} (h : ∀ v, v < 364 → c v = d v ∧ n v = q v) : ∀ i, tlF c n m z i = tlF d q m z i
  | 0 => rfl
  | i + 1 => by rw [tlF_s, tlF_s, tlF_congr h i, (h (363 - i) (by omega)).1, (h (363 - i) (by omega)).2]
/-- what the sum of all leaves behind -/
def tlA (c n : Nat → Int) (z : Int) : Int × Int × Int := if mnF c 364 < 1000 then tlF c n (mnF c 364) z 364 else (0, z, 0)
theorem tlA_congr {c n d q : Nat → Int} {z : Int} (h : ∀ v, v < 364 → c v = d v ∧ n v = q v) : tlA c n z = tlA d q z := by
  unfold tlA
  rw [mnF_congr (fun v hv => (h v hv).1) 364 (Nat.le_refl _), tlF_congr h]
/-- how many cost k at most -/
def ctF (c : Nat → Int) (x : Int) : Nat → Nat
  | 0 => 0
  | k + 1 => ctF c x k + (if c k ≤ x then 1 else 0)
theorem ctF_le (c : Nat → Int) (x : Int) : ∀ k, ctF c x k ≤ k
  | 0 => Nat.le_refl _
  | k + 1 => by have := ctF_le c x k; show ctF c x k + _ ≤ _; split <;> omega
theorem ctF_s (c : Nat → Int) (x : Int) (k : Nat) : ctF c x (k + 1) = ctF c x k + (if c k ≤ x then 1 else 0) := rfl
theorem anyB_t {f : Nat → Bool} : ∀ {k : Nat} {b : Nat}, b < k → f b = true → anyB f k = true
  | 0, b, h, _ => absurd h (Nat.not_lt_zero b)
  | k + 1, b, h, hb => by
    show (anyB f k || f k) = true
    by_cases e : b = k
    · rw [← e, hb, Bool.or_true]
    · rw [anyB_t (show b < k by omega) hb, Bool.true_or]
theorem anyB_f {f : Nat → Bool} : ∀ {k : Nat}, (∀ b, b < k → f b = false) → anyB f k = false
  | 0, _ => rfl
  | k + 1, h => by
    show (anyB f k || f k) = false
    rw [anyB_f (fun b hb => h b (by omega)), h k (by omega)]; rfl
theorem kD_37 {s : Nat} (h : s < 7) : KW.2 37 s = some (38 + s) := by show (if s < 7 then some (37 + 1 + s) else none) = _; rw [if_pos h]
theorem kD_45 {s : Nat} (h : s < 7) : KW.2 45 s = some (46 + s) := by show (if s < 7 then some (45 + 1 + s) else none) = _; rw [if_pos h]
theorem kD_55 {s : Nat} (h : s < 7) : KW.2 55 s = some (56 + s) := by show (if s < 7 then some (55 + 1 + s) else none) = _; rw [if_pos h]
theorem kD_63 {s : Nat} (h : s < 7) : KW.2 63 s = some (64 + s) := by show (if s < 7 then some (63 + 1 + s) else none) = _; rw [if_pos h]
theorem kE_38 : ∀ {s : Nat}, s < 7 → KW.1[38 + s]? = some (.inl (0, 364)) := by decide
theorem kE_46 : ∀ {s : Nat}, s < 7 → KW.1[46 + s]? = some (.inl (1, 364)) := by decide
theorem kE_56 : ∀ {s : Nat}, s < 7 → KW.1[56 + s]? = some (.inl (0, 364)) := by decide
theorem kE_64 : ∀ {s : Nat}, s < 7 → KW.1[64 + s]? = some (.inl (1, 364)) := by decide
theorem hI_none {σ : SG} {L : Int} {k : Nat} (h : te σ k = none) : hI σ L (k + 1) = hI σ L k := by
  show (match te σ k with | none => hI σ L k | some w => if (k : Int) = L then hI σ L k else bindH (hI σ L k) k w) = _
  rw [h]
theorem hI_L {σ : SG} {L : Int} {k : Nat} (h : (k : Int) = L) : hI σ L (k + 1) = hI σ L k := by
  show (match te σ k with | none => hI σ L k | some w => if (k : Int) = L then hI σ L k else bindH (hI σ L k) k w) = _
  split
  · rfl
  · rw [if_pos h]
theorem hI_b {σ : SG} {L : Int} {k w : Nat} (h : te σ k = some w) (h2 : ¬ (k : Int) = L) : hI σ L (k + 1) = bindH (hI σ L k) k w := by
  show (match te σ k with | none => hI σ L k | some w => if (k : Int) = L then hI σ L k else bindH (hI σ L k) k w) = _
  rw [h]
  exact if_neg h2
theorem hRec_k {σ : SG} {H : Nat → Bool} {L : Int} {k : Nat} (h1 : 1 ≤ k) (h2 : k ≤ nn σ) : hRec σ H L (nn σ - (k - 1)) = if H (k - 1) then gbH (hRec σ H L (nn σ - k)) (sp' σ (k - 1)) (he σ (k - 1)) (so σ (he σ (k - 1))) else hRec σ H L (nn σ - k) := by
  rw [show nn σ - (k - 1) = (nn σ - k) + 1 by omega]
  show (if _ then _ else _) = _
  rw [show nn σ - 1 - (nn σ - k) = k - 1 by omega]
theorem gb_F {S : HS} {s h so : Nat} (e : S.2.2 h = false) : gbH S s h so = S := by unfold gbH; rw [e]; rfl
theorem AgH_gb {C N : HI} {B : Nat → Int} {S : HS} {s h so : Nat} {g m g2 m2 : Nat → Int} (hA : AgH C N B S) (hs : s ≤ 6) (hh : h ≤ 5) (hso : so ≤ 4) (hb : S.2.2 h = true)
    (h1 : ∀ v, v < 364 → g v = gbC (C h) (N h) (C s) so v ∧ m v = gbN (C h) (N h) (N s) so v) (h2 : ∀ v, v < 364 → g2 v = 0 ∧ m2 v = 1) : AgH (upR (upR C s g) h g2) (upR (upR N s m) h m2) (updF (updF B s 1) h 0) (gbH S s h so) := by
  unfold gbH
  rw [if_pos hb]
  have a1 : AgH (upR C s g) (upR N s m) (updF B s 1) (upR S.1 s (gbC (S.1 h) (S.2.1 h) (S.1 s) so), upR S.2.1 s (gbN (S.1 h) (S.2.1 h) (S.2.1 s) so), updF S.2.2 s true) := by
    refine AgH_up hA (fun v hv => ?_) rfl
    have e := wg_congr (so := so) hso hv (fun j hj => (hA h (by omega)).2 j hj)
    have e2 := (hA s hs).2 v hv
    rw [(h1 v hv).1, (h1 v hv).2]
    unfold gbC gbN
    rw [e, e2.1, e2.2]
    exact ⟨rfl, rfl⟩
  exact AgH_up a1 h2 rfl
/-- what reckon leaves of X -/
def HQ (S : HS) (c n f fl : Nat → Int) : Prop := (∀ v, v < 364 → c v = S.1 6 v ∧ n v = S.2.1 6 v) ∧ f 5 = mnF (S.1 6) 364 ∧ ∃ z, f 6 = (tlA (S.1 6) (S.2.1 6) z).1 ∧ f 7 = (tlA (S.1 6) (S.2.1 6) z).2.1 ∧ fl 8 = (tlA (S.1 6) (S.2.1 6) z).2.2
theorem HQ_mk {C N : HI} {B f fl : Nat → Int} {S : HS} {z : Int} (hA : AgH C N B S) (h5 : f 5 = mnF (C 6) 364) (h6 : f 6 = (tlA (C 6) (N 6) z).1) (h7 : f 7 = (tlA (C 6) (N 6) z).2.1) (h8 : fl 8 = (tlA (C 6) (N 6) z).2.2) : HQ S (C 6) (N 6) f fl := by
  have hv := (hA 6 (Nat.le_refl 6)).2
  have et := tlA_congr (z := z) hv
  rw [et] at h6 h7 h8
  exact ⟨hv, by rw [h5]; exact mnF_congr (fun v h => (hv v h).1) 364 (Nat.le_refl _), z, h6, h7, h8⟩
theorem hFin_t {σ : SG} {H : Nat → Bool} {L : Int} (h : anyB (hRec σ H L (nn σ)).2.2 6 = true) : hFin σ H L = forbH (hRec σ H L (nn σ)) 6 := by unfold hFin; rw [if_pos h]
theorem hFin_f {σ : SG} {H : Nat → Bool} {L : Int} (h : anyB (hRec σ H L (nn σ)).2.2 6 = false) : hFin σ H L = hRec σ H L (nn σ) := by unfold hFin; rw [h]; rfl
