/-! what both sides hold, their answers, and the class's rows -/
abbrev GS : Type := SG × Nat × (Nat → Int) × (Nat → Option SG)
def gσ (G : GS) : SG := G.1
def gm (G : GS) : Nat := G.2.1
def gg (G : GS) : Nat → Int := G.2.2.1
def gi (G : GS) : Nat → Option SG := G.2.2.2
def heardF (σ : SG) : Nat → Bool := (wD σ).2.1
def hS (σ : SG) (L : Int) : HS := hFin σ (heardF σ) L
def cX (σ : SG) (L : Int) : Nat → Int := (hS σ L).1 6
def nX (σ : SG) (L : Int) : Nat → Int := (hS σ L).2.1 6
def fwF (σ : SG) (b : Nat) : Int := if te σ b = none then 1000 else mnF (cX σ b) 364
def hrF (σ : SG) : Nat := bw (fun b => encC ((wD σ).1 b)) 6
def tlsF (σ : SG) : Nat → Bool := tellsF (nn σ) (rF σ (heardF σ)) (sF σ (heardF σ)) (hrF σ)
def RC (hi hl : HI) (G : GS) : Prop :=
  TB (hi 2) (hi 3) ∧ CR hi 10 (gσ G) ∧ (hi 4 1 = (gm G : Nat) ∧ gm G ≤ 48 ∧ hi 5 = gg G ∧ ∀ i, i < gm G → 33 ≤ hi 5 i ∧ hi 5 i ≤ 126) ∧
  (hi 32 0 = b2i (gi G 0).isSome ∧ hi 32 1 = b2i (gi G 1).isSome ∧ (∀ τ, gi G 0 = some τ → CR hi 18 τ) ∧ (∀ τ, gi G 1 = some τ → CR hi 25 τ)) ∧
  (hi 0 11 = 0 ∨ (hi 0 11 = 1 ∧ HQ (hS (gσ G) (-1)) (hi 44) (hl 52) (hi 36) (hl 36))) ∧
  (hi 0 12 = 0 ∨ (hi 0 12 = 1 ∧ ∀ b, b < 6 → hi 72 b = fwF (gσ G) b))
/-- what the class leaves alone -/
def FrC (hi hl hi' hl' : HI) : Prop := ∀ a, 77 ≤ a → hi' a = hi a ∧ hl' a = hl a
theorem fr0 {hi hl : HI} : FrC hi hl hi hl := fun _ _ => ⟨rfl, rfl⟩
theorem fr1 {hi hl hi' hl' : HI} {p : Nat} {f : Nat → Int} (hp : p < 77) (h : FrC hi hl hi' hl') : FrC hi hl (upR hi' p f) hl' := fun a ha => ⟨by rw [upR_n (by omega)]; exact (h a ha).1, (h a ha).2⟩
theorem fr2 {hi hl hi' hl' : HI} {p : Nat} {f : Nat → Int} (hp : p < 77) (h : FrC hi hl hi' hl') : FrC hi hl hi' (upR hl' p f) := fun a ha => ⟨(h a ha).1, by rw [upR_n (by omega)]; exact (h a ha).2⟩
theorem fr3 {hi hl hi' hl' C : HI} {n : Nat} (hn : n + 7 ≤ 77) (h : FrC hi hl hi' hl') : FrC hi hl (blk hi' n C) hl' := fun a ha => ⟨by show (if _ then _ else _) = _; rw [if_neg (by omega)]; exact (h a ha).1, (h a ha).2⟩
theorem fr4 {hi hl hi' hl' C : HI} {n : Nat} (hn : n + 7 ≤ 77) (h : FrC hi hl hi' hl') : FrC hi hl hi' (blk hl' n C) := fun a ha => ⟨(h a ha).1, by show (if _ then _ else _) = _; rw [if_neg (by omega)]; exact (h a ha).2⟩
theorem fr_t {hi hl h1 l1 h2 l2 : HI} (a : FrC hi hl h1 l1) (b : FrC h1 l1 h2 l2) : FrC hi hl h2 l2 := fun x hx => ⟨(b x hx).1.trans (a x hx).1, (b x hx).2.trans (a x hx).2⟩
def padV (G : GS) : Int := padS (gg G) (gm G)
def aSort (G : GS) (b v : Int) : Int := if ¬ (0 ≤ b ∧ b < 6) then -1 else if ¬ (0 ≤ v ∧ v ≤ 4) then -2 else (so (gσ G) b.toNat : Nat)
def nSort (G : GS) (b v : Int) : GS := if (0 ≤ b ∧ b < 6) ∧ 0 ≤ v ∧ v ≤ 4 then ((updF (gσ G).1 b.toNat v.toNat, (gσ G).2), G.2) else G
def aSay (G : GS) (s : Int) : Int := if ¬ (33 ≤ s ∧ s ≤ 126) then -2 else if gm G = 48 then -4 else ((gm G + 1 : Nat) : Int)
def nSay (G : GS) (s : Int) : GS := if 33 ≤ s ∧ s ≤ 126 ∧ gm G ≠ 48 then (gσ G, gm G + 1, updF (gg G) (gm G) s, gi G) else G
def wipeG (G : GS) : GS := (gσ G, 0, gg G, gi G)
def aFault (G : GS) (how : Int) : Int := if how = 0 then dayF (gg G) (gm G) else if how = 1 then sayF (gg G) (gm G) else -2
def dayS (G : GS) : PSt := (dF (gg G) (gm G)).2
def aDays (G : GS) : Int := if dayF (gg G) (gm G) ≠ -6 then -5 else ((dayS G).2.2.1 : Nat)
def nDays (G : GS) : GS := if dayF (gg G) (gm G) ≠ -6 then G else ((so (gσ G), fun p => ((dayS G).2.2.2.1 p).toNat, fun p => ((dayS G).2.2.2.2.1 p).toNat, fun p => ((dayS G).2.2.2.2.2 p).toNat, (dayS G).2.2.1, bg (gσ G), ra (gσ G), te (gσ G)), 0, gg G, gi G)
def aPart (G : GS) (p w : Int) : Int := if ¬ (0 ≤ p ∧ p < (nn (gσ G) : Nat)) then -1 else if w = 0 then (sp' (gσ G) p.toNat : Nat) else if w = 1 then (he (gσ G) p.toNat : Nat) else if w = 2 then (di (gσ G) p.toNat : Nat) else if w = 3 then b2i (heardF (gσ G) p.toNat) else -2
def aSlips (G : GS) (s i : Int) : Int := if ¬ (0 ≤ s ∧ s ≤ 4) then -2 else if padV G = -1 then -5 else if i = 0 then (slN s.toNat (padV G).toNat : Nat) else if ¬ (1 ≤ i ∧ i ≤ (slN s.toNat (padV G).toNat : Nat)) then -6 else (L3 (nth s.toNat (padV G).toNat i.toNat) : Nat)
def setBg (σ : SG) (v : Nat) : SG := (so σ, sp' σ, he σ, di σ, nn σ, v, ra σ, te σ)
def setRa (σ : SG) (v : Nat) : SG := (so σ, sp' σ, he σ, di σ, nn σ, bg σ, v, te σ)
def setTe (σ : SG) (b : Nat) (o : Option Nat) : SG := (so σ, sp' σ, he σ, di σ, nn σ, bg σ, ra σ, updF (te σ) b o)
def aBarg (G : GS) : Int := if padV G = -1 then -5 else (L3 (padV G).toNat : Nat)
def nBarg (G : GS) : GS := if padV G = -1 then G else (setBg (gσ G) (padV G).toNat, 0, gg G, gi G)
def aSays (G : GS) (b i : Int) : Int := if ¬ (0 ≤ b ∧ b < 6) then -1 else wordO (encC ((wD (gσ G)).1 b.toNat)) i
def aTest (G : GS) (b : Int) : Int := if ¬ (0 ≤ b ∧ b < 6) then -1 else if padV G = -1 then -5 else (L3 (padV G).toNat : Nat)
def nTest (G : GS) (b : Int) : GS := if ¬ (0 ≤ b ∧ b < 6) ∨ padV G = -1 then G else (setTe (gσ G) b.toNat (some (padV G).toNat), 0, gg G, gi G)
def aUns (G : GS) (b : Int) : Int := if ¬ (0 ≤ b ∧ b < 6) then -1 else if te (gσ G) b.toNat = none then 0 else 1
def nUns (G : GS) (b : Int) : GS := if ¬ (0 ≤ b ∧ b < 6) ∨ te (gσ G) b.toNat = none then G else (setTe (gσ G) b.toNat none, G.2)
def nvr (x : Int) : Int := if x < 1000 then x else -6
def aCost (G : GS) : Int := if padV G = -1 then -5 else nvr (cX (gσ G) (-1) (padV G).toNat)
def mX (σ : SG) : Int := mnF (cX σ (-1)) 364
def tX (σ : SG) : Int × Int × Int := tlF (cX σ (-1)) (nX σ (-1)) (mX σ) 0 364
def aLik (G : GS) (w : Int) : Int := if ¬ ((0 ≤ w ∧ w ≤ 2) ∨ (10 ≤ w ∧ w ≤ 14)) then -2 else if mX (gσ G) = 1000 then -6 else if w = 0 then mX (gσ G) else if w = 1 then (tX (gσ G)).1 else if w = 2 then wordS (tX (gσ G)).2.1.toNat (-1) else wordS (tX (gσ G)).2.1.toNat (w - 10)
def GONE : Int := -1000000000000000000
def wX (σ : SG) (v : Nat) : Int := if cX σ (-1) v < 1000 ∧ cX σ (-1) v = mX σ then nX σ (-1) v else 0
def aWays (G : GS) : Int := if padV G = -1 then GONE - 5 else wX (gσ G) (padV G).toNat
def aOdds (G : GS) (p : Int) : Int := if ¬ (0 ≤ p ∧ p ≤ 1) then GONE - 2 else if mX (gσ G) = 1000 then GONE - 3 else if padV G = -1 then GONE - 5 else
  if p = 0 then (((wX (gσ G) (padV G).toNat).toNat / Nat.gcd (wX (gσ G) (padV G).toNat).toNat (tX (gσ G)).2.2.toNat : Nat) : Int) else (((tX (gσ G)).2.2.toNat / Nat.gcd (wX (gσ G) (padV G).toNat).toNat (tX (gσ G)).2.2.toNat : Nat) : Int)
def aCan (G : GS) (k : Int) : Int := if ¬ (0 ≤ k ∧ k ≤ 16) then -2 else (ctF (cX (gσ G) (-1)) k 364 : Nat)
def tgF (σ : SG) (k : Int) : Nat → Nat
  | 0 => 0
  | b + 1 => if fwF σ b ≤ k then tgF σ k b ||| 1 * 2 ^ b else tgF σ k b
def aTau (G : GS) (k : Int) : Int := if ¬ (0 ≤ k ∧ k ≤ 16) then -2 else if mX (gσ G) ≤ k then -3 else (tgF (gσ G) k 6 : Nat)
def aFew (G : GS) (n : Int) : Int := if ¬ (1 ≤ n ∧ n ≤ 3) then -2 else fbF (tlsF (gσ G)) 63
def aDoubt (G : GS) (n b : Int) : Int := if ¬ (1 ≤ n ∧ n ≤ 3 ∧ 0 ≤ b ∧ b ≤ 63) then -2 else if tlsF (gσ G) b.toNat = true then 0 else (p3 n.toNat : Nat)
def aRare (G : GS) (v : Int) : Int := if ¬ (1 ≤ v ∧ v ≤ 99) then -2 else (ra (gσ G) : Nat)
def nRare (G : GS) (v : Int) : GS := if ¬ (1 ≤ v ∧ v ≤ 99) then G else (setRa (gσ G) v.toNat, G.2)
def aYears (G : GS) (a n b i : Int) : Int := if ¬ (0 ≤ b ∧ b < 6) then -1 else if ¬ (0 ≤ a ∧ a ≤ 9999 ∧ 1 ≤ n ∧ n ≤ 400) then -2 else wordO (encC ((yrun (gσ G) a.toNat n.toNat).1.1 b.toNat)) i
/-- the first of the days 1 to n at whose end b doesn't keep the bargain -/
def lsF (σ : SG) (x b : Nat) : Nat → Int
  | 0 => -6
  | d + 1 => if lsF σ x b d ≠ -6 then lsF σ x b d else if encC ((yrun σ x (d + 1)).1.1 b) ≠ (bg σ : Nat) then ((d + 1 : Nat) : Int) else -6
def aLost (G : GS) (a n b : Int) : Int := if ¬ (0 ≤ b ∧ b < 6) then -1 else if ¬ (0 ≤ a ∧ a ≤ 9999 ∧ 1 ≤ n ∧ n ≤ 400) then -2 else lsF (gσ G) a.toNat b.toNat n.toNat
def aImg (_ : GS) (n : Int) : Int := if ¬ (0 ≤ n ∧ n ≤ 1) then -2 else 1
def nImg (G : GS) (n : Int) : GS := if ¬ (0 ≤ n ∧ n ≤ 1) then G else (gσ G, gm G, gg G, updF (gi G) n.toNat (some (gσ G)))
def aRes (G : GS) (n : Int) : Int := if ¬ (0 ≤ n ∧ n ≤ 1) then -2 else if gi G n.toNat = none then -3 else 1
def nRes (G : GS) (n : Int) : GS := if ¬ (0 ≤ n ∧ n ≤ 1) then G else match gi G n.toNat with
  | none => G
  | some τ => (τ, G.2)
def twF (σ : SG) : Nat := bw (fun b => encC (te σ b)) 6
def aTold (G : GS) (w : Int) : Int := if 10 ≤ w ∧ w ≤ 15 then (so (gσ G) (w - 10).toNat : Nat) else if 20 ≤ w ∧ w ≤ 25 then wordO (encC (te (gσ G) (w - 20).toNat)) (-1) else
  if w = 0 then (gm G : Nat) else if w = 1 then (nn (gσ G) : Nat) else if w = 2 then (L3 (bg (gσ G)) : Nat) else if w = 3 then (ra (gσ G) : Nat) else if w = 4 then (twF (gσ G) : Nat) else if w = 5 then (hrF (gσ G) : Nat) else -2
theorem bw_congr {f g : Nat → Int} : ∀ {k : Nat}, (∀ b, b < k → f b = g b) → bw f k = bw g k
  | 0, _ => rfl
  | k + 1, h => by rw [bw_s, bw_s, bw_congr (fun b hb => h b (by omega)), h k (by omega)]
theorem hrF_lt (σ : SG) : hrF σ < 64 := bw_lt _ 6
theorem HOK_D {σ : SG} (hs : WF σ) : HOK σ (heardF σ) := by
  have key : ∀ k, ∀ p, p < k → (wrun σ (bg σ) true (di σ) wZ k).2.1 p = true → hearsB σ true (wrun σ (bg σ) true (di σ) wZ p) p = true := by
    intro k
    induction k with
    | zero => intro p hp; omega
    | succ k ih =>
      intro p hp h
      have h : updF (wrun σ (bg σ) true (di σ) wZ k).2.1 k (hearsB σ true (wrun σ (bg σ) true (di σ) wZ k) k) p = true := h
      by_cases e : p = k
      · subst e; rw [updF_s] at h; exact h
      · rw [updF_n e] at h; exact ih p (by omega) h
  intro p hp h
  have := key (nn σ) p hp h
  rcases hB_heard (hs.2.2.2.1 p hp).1 this with q | q <;> omega
theorem tlF_z {c n : Nat → Int} {m z y : Int} : ∀ i, (∃ v, 364 - i ≤ v ∧ v < 364 ∧ c v = m) → i ≤ 364 → tlF c n m z i = tlF c n m y i
  | 0, ⟨v, h1, h2, _⟩, _ => by omega
  | i + 1, ⟨v, h1, h2, h3⟩, hi => by
    have hj : ∀ j, (tlF c n m z j).1 = (tlF c n m y j).1 ∧ (tlF c n m z j).2.2 = (tlF c n m y j).2.2 := by
      intro j
      induction j with
      | zero => exact ⟨rfl, rfl⟩
      | succ j ih => rw [tlF_s, tlF_s]; split; { dsimp only; rw [ih.1, ih.2]; exact ⟨rfl, rfl⟩ }; { exact ih }
    rw [tlF_s, tlF_s]
    by_cases e : c (363 - i) = m
    · rw [if_pos e, if_pos e, (hj i).1, (hj i).2]
    · rw [if_neg e, if_neg e]
      refine tlF_z i ⟨v, ?_, h2, h3⟩ (by omega)
      by_cases q : v = 363 - i
      · rw [q] at h3; exact absurd h3 e
      · omega
theorem mnF_ex {c : Nat → Int} : ∀ k, mnF c k < 1000 → ∃ v, v < k ∧ c v = mnF c k
  | 0, h => by have h : (1000 : Int) < 1000 := h; omega
  | k + 1, h => by
    rw [mnF_s] at h ⊢
    by_cases e : c k < mnF c k
    · rw [if_pos e]; exact ⟨k, by omega, rfl⟩
    · rw [if_neg e] at h ⊢
      obtain ⟨v, h1, h2⟩ := mnF_ex k h
      exact ⟨v, by omega, h2⟩
theorem HQ_use {σ : SG} {c n f fl : Nat → Int} (h : HQ (hS σ (-1)) c n f fl) : (∀ v, v < 364 → c v = cX σ (-1) v ∧ n v = nX σ (-1) v) ∧ f 5 = mX σ ∧ (mX σ < 1000 → f 6 = (tX σ).1 ∧ f 7 = (tX σ).2.1 ∧ fl 8 = (tX σ).2.2) := by
  unfold HQ at h
  rw [show (hS σ (-1)).1 6 = cX σ (-1) from rfl, show (hS σ (-1)).2.1 6 = nX σ (-1) from rfl] at h
  obtain ⟨h1, h2, z, h3, h4, h5⟩ := h
  refine ⟨h1, h2, fun hm => ?_⟩
  have e : tlA (cX σ (-1)) (nX σ (-1)) z = tX σ := by
    unfold tlA tX mX
    unfold mX at hm
    rw [if_pos hm]
    obtain ⟨v, hv, hv2⟩ := mnF_ex 364 hm
    exact tlF_z 364 ⟨v, by omega, hv, hv2⟩ (Nat.le_refl _)
  rw [e] at h3 h4 h5
  exact ⟨h3, h4, h5⟩
theorem BdH_fin {σ : SG} {L : Int} (hs : WF σ) : ∀ v, v < 364 → 0 ≤ cX σ L v ∧ cX σ L v ≤ 1000 := by
  intro v hv
  have hb := BdH_rec (L := L) hs (HOK_D hs) (nn σ) (Nat.le_refl _)
  unfold cX hS hFin
  split
  · show 0 ≤ upR (hRec σ (heardF σ) L (nn σ)).1 6 (fun _ => 1000) 6 v ∧ upR (hRec σ (heardF σ) L (nn σ)).1 6 (fun _ => 1000) 6 v ≤ 1000
    rw [upR_s]; omega
  · exact hb 6 (Nat.le_refl _) v hv
theorem mX_b {σ : SG} (hs : WF σ) : 0 ≤ mX σ ∧ mX σ ≤ 1000 := mnF_b (BdH_fin hs) 364 (Nat.le_refl _)
theorem tX_f {σ : SG} (h : mX σ < 1000) : 0 ≤ (tX σ).2.1 ∧ (tX σ).2.1 < 364 := by
  have key : ∀ i, 0 ≤ (tlF (cX σ (-1)) (nX σ (-1)) (mX σ) 0 i).2.1 ∧ (tlF (cX σ (-1)) (nX σ (-1)) (mX σ) 0 i).2.1 < 364 := by
    intro i
    induction i with
    | zero => show 0 ≤ (0 : Int) ∧ (0 : Int) < 364; omega
    | succ i ih => rw [tlF_s]; split; { dsimp only; omega }; { exact ih }
  exact key 364
theorem padV_c {G : GS} (h : padV G = -1) : sayF (gg G) (gm G) ≠ -6 := by
  intro q
  unfold padV padS at h
  rw [if_pos q] at h; omega
theorem padV_n {G : GS} (h : sayF (gg G) (gm G) ≠ -6) : padV G = -1 := by unfold padV padS; rw [if_neg h]
theorem padV_y {G : GS} (h : sayF (gg G) (gm G) = -6) : padV G = ((f3 (gm G) + sayV (gg G) (gm G) : Nat) : Int) := by unfold padV padS; rw [if_pos h]
theorem RC_o {hi hl : HI} {σ : SG} {m : Nat} {g : Nat → Int} {im : Nat → Option SG} (h : RC hi hl (σ, m, g, im)) : TB (hi 2) (hi 3) ∧ CR hi 10 σ ∧ (hi 4 1 = (m : Nat) ∧ m ≤ 48 ∧ hi 5 = g ∧ ∀ i, i < m → 33 ≤ hi 5 i ∧ hi 5 i ≤ 126) ∧
  (hi 32 0 = b2i (im 0).isSome ∧ hi 32 1 = b2i (im 1).isSome ∧ (∀ τ, im 0 = some τ → CR hi 18 τ) ∧ (∀ τ, im 1 = some τ → CR hi 25 τ)) ∧
  (hi 0 11 = 0 ∨ (hi 0 11 = 1 ∧ HQ (hS σ (-1)) (hi 44) (hl 52) (hi 36) (hl 36))) ∧
  (hi 0 12 = 0 ∨ (hi 0 12 = 1 ∧ ∀ b, b < 6 → hi 72 b = fwF σ b)) := h
theorem RC_i {hi hl : HI} {σ : SG} {m : Nat} {g : Nat → Int} {im : Nat → Option SG} (hT : TB (hi 2) (hi 3)) (hC : CR hi 10 σ) (hm : hi 4 1 = (m : Nat)) (hm2 : m ≤ 48) (hg : hi 5 = g) (hgr : ∀ i, i < m → 33 ≤ hi 5 i ∧ hi 5 i ≤ 126)
  (k0 : hi 32 0 = b2i (im 0).isSome) (k1 : hi 32 1 = b2i (im 1).isSome) (k2 : ∀ τ, im 0 = some τ → CR hi 18 τ) (k3 : ∀ τ, im 1 = some τ → CR hi 25 τ) (hf : hi 0 11 = 0 ∨ (hi 0 11 = 1 ∧ HQ (hS σ (-1)) (hi 44) (hl 52) (hi 36) (hl 36))) (hw : hi 0 12 = 0 ∨ (hi 0 12 = 1 ∧ ∀ b, b < 6 → hi 72 b = fwF σ b)) : RC hi hl (σ, m, g, im) := ⟨hT, hC, ⟨hm, hm2, hg, hgr⟩, ⟨k0, k1, k2, k3⟩, hf, hw⟩
theorem upR_comm {h : HI} {p q : Nat} {f g : Nat → Int} (hpq : p ≠ q) : upR (upR h q g) p f = upR (upR h p f) q g := rs hpq rfl
theorem upR_blk {h C : HI} {p n : Nat} {f : Nat → Int} (hp : p < n ∨ n + 7 ≤ p) : upR (blk h n C) p f = blk (upR h p f) n C := by
  funext a
  by_cases e : a = p
  · subst e
    rw [upR_s]
    unfold blk
    rw [if_neg (by omega), upR_s]
  · rw [upR_n e]
    unfold blk
    split
    · rfl
    · rw [upR_n e]
theorem fw_n {σ : SG} {b : Nat} (h : te σ b = none) : fwF σ b = 1000 := by unfold fwF; rw [if_pos h]
theorem fw_s {σ : SG} {b v : Nat} (h : te σ b = some v) : fwF σ b = mnF (cX σ b) 364 := by unfold fwF; rw [if_neg (by rw [h]; simp)]
def aWipe (G : GS) : Int := (gm G : Nat)
theorem CR_so {hi : HI} {σ : SG} {n w : Nat} (h : CR hi 10 σ) (hn : n < 6) (hw : w ≤ 4) {hi' : HI} (h11 : hi' 11 = updF (hi 11) n (w : Nat)) (h10 : hi' 10 = hi 10) (h12 : hi' 12 = hi 12) (h13 : hi' 13 = hi 13) (h14 : hi' 14 = hi 14) (h15 : hi' 15 = hi 15) (h16 : hi' 16 = hi 16) : CR hi' 10 (updF σ.1 n w, σ.2) := by
  obtain ⟨⟨w1, w2⟩, h1, h2, h3, h4, h5, h6⟩ := h
  refine ⟨⟨fun b hb => ?_, w2⟩, fun b hb => ?_, fun b hb => ?_, ?_, fun p hp => ?_, ?_, ?_⟩
  · show updF σ.1 n w b ≤ 4
    by_cases e : b = n
    · rw [e, updF_s]; exact hw
    · rw [updF_n e]; exact w1 b hb
  · show hi' 11 b = ((updF σ.1 n w b : Nat) : Int)
    rw [h11]
    by_cases e : b = n
    · rw [e, updF_s, updF_s]
    · rw [updF_n e, updF_n e]; exact h1 b hb
  · show hi' 12 b = _; rw [h12]; exact h2 b hb
  · show hi' 13 3 = _; rw [h13]; exact h3
  · show hi' 14 p = _ ∧ hi' 15 p = _ ∧ hi' 16 p = _; rw [h14, h15, h16]; exact h4 p hp
  · show hi' 10 3 = _; rw [h10]; exact h5
  · show hi' 10 4 = _; rw [h10]; exact h6
def dSG (σ : SG) (g : Nat → Int) (m : Nat) : SG := (so σ, fun p => ((dF g m).2.2.2.2.1 p).toNat, fun p => ((dF g m).2.2.2.2.2.1 p).toNat, fun p => ((dF g m).2.2.2.2.2.2 p).toNat, (dF g m).2.2.2.1, bg σ, ra σ, te σ)
theorem dF_z {g : Nat → Int} {m : Nat} (h : dayF g m = -6) : dF g m = (-6, (dF g m).2) := by
  unfold dayF at h
  by_cases e : (dF g m).1 ≠ -6
  · rw [if_pos e] at h; exact absurd h e
  · have e : (dF g m).1 = -6 := by omega
    rw [← e]
theorem WF_days {σ : SG} {g : Nat → Int} {m : Nat} (hs : WF σ) (hd : dayF g m = -6) : WF (dSG σ g m) := by
  obtain ⟨a1, a2, a3, a4, a5, a6, a7⟩ := dF_n (dF_z hd)
  refine ⟨hs.1, hs.2.1, a2, fun p hp => ?_, hs.2.2.2.2⟩
  have := a7 p hp
  show ((dF g m).2.2.2.2.1 p).toNat ≤ 7 ∧ ((dF g m).2.2.2.2.2.1 p).toNat ≤ 5 ∧ ((dF g m).2.2.2.2.2.2 p).toNat ≤ 9 ∧ ((dF g m).2.2.2.2.1 p).toNat ≠ ((dF g m).2.2.2.2.2.1 p).toNat
  omega
theorem CR_days {hi : HI} {σ : SG} {g : Nat → Int} {m : Nat} {P A B D d1 d2 d3 : Nat → Int} (hs : WF σ) (h : CR hi 10 σ) (hd : dayF g m = -6) (hA : ∀ j, j < (dF g m).2.2.2.1 → A j = (dF g m).2.2.2.2.1 j ∧ B j = (dF g m).2.2.2.2.2.1 j ∧ D j = (dF g m).2.2.2.2.2.2 j)
    (hD : ∀ j, j < 16 → d1 j = A j ∧ d2 j = B j ∧ d3 j = D j) (hP : P 3 = ((dF g m).2.2.2.1 : Nat)) {hi' : HI} (h13 : hi' 13 = updF (hi 13) 3 (P 3)) (h14 : hi' 14 = d1) (h15 : hi' 15 = d2) (h16 : hi' 16 = d3) (h10 : hi' 10 = hi 10) (h11 : hi' 11 = hi 11) (h12 : hi' 12 = hi 12) : CR hi' 10 (dSG σ g m) := by
  obtain ⟨a1, a2, a3, a4, a5, a6, a7⟩ := dF_n (dF_z hd)
  obtain ⟨w1, h1, h2, h3, h4, h5, h6⟩ := h
  refine ⟨WF_days hs hd, fun b hb => ?_, fun b hb => ?_, ?_, fun p hp => ?_, ?_, ?_⟩
  · show hi' 11 b = _; rw [h11]; exact h1 b hb
  · show hi' 12 b = _; rw [h12]; exact h2 b hb
  · show hi' 13 3 = _
    rw [h13, updF_s]; exact hP
  · have hp : p < (dF g m).2.2.2.1 := hp
    have h1 := hD p (by omega)
    have h2 := hA p hp
    have h3 := a7 p hp
    show hi' 14 p = (((dF g m).2.2.2.2.1 p).toNat : Int) ∧ hi' 15 p = (((dF g m).2.2.2.2.2.1 p).toNat : Int) ∧ hi' 16 p = (((dF g m).2.2.2.2.2.2 p).toNat : Int)
    rw [h14, h15, h16, h1.1, h1.2.1, h1.2.2, h2.1, h2.2.1, h2.2.2, Int.toNat_of_nonneg h3.1.1, Int.toNat_of_nonneg h3.2.1.1, Int.toNat_of_nonneg h3.2.2.1.1]
    exact ⟨rfl, rfl, rfl⟩
  · show hi' 10 3 = _; rw [h10]; exact h5
  · show hi' 10 4 = _; rw [h10]; exact h6
theorem CR_bg {hi : HI} {σ : SG} {v : Nat} (h : CR hi 10 σ) (hv : v < 364) {f : Nat → Int} : CR (upR (upR hi 10 (updF (hi 10) 3 (v : Nat))) 4 f) 10 (setBg σ v) := by
  obtain ⟨⟨w1, w2, w3, w4, w5, w6⟩, h1, h2, h3, h4, h5, h6⟩ := h
  refine ⟨⟨w1, w2, w3, w4, hv, w6⟩, h1, h2, h3, h4, ?_, ?_⟩
  · show updF (hi 10) 3 ((v : Nat) : Int) 3 = ((v : Nat) : Int)
    rw [updF_s]
  · show updF (hi 10) 3 ((v : Nat) : Int) 4 = ((ra σ : Nat) : Int)
    rw [updF_n (by decide)]; exact h6
theorem CR_ra {hi : HI} {σ : SG} {v : Nat} (h : CR hi 10 σ) (hv : 1 ≤ v ∧ v ≤ 99) : CR (upR hi 10 (updF (hi 10) 4 (v : Nat))) 10 (setRa σ v) := by
  obtain ⟨⟨w1, w2, w3, w4, w5, w6⟩, h1, h2, h3, h4, h5, h6⟩ := h
  refine ⟨⟨w1, w2, w3, w4, w5, hv⟩, h1, h2, h3, h4, ?_, ?_⟩
  · show updF (hi 10) 4 ((v : Nat) : Int) 3 = ((bg σ : Nat) : Int)
    rw [updF_n (by decide)]; exact h5
  · show updF (hi 10) 4 ((v : Nat) : Int) 4 = ((v : Nat) : Int)
    rw [updF_s]
theorem CR_te {hi : HI} {σ : SG} {n : Nat} {o : Option Nat} {x : Int} (h : CR hi 10 σ) (hn : n < 6) (hv : ∀ v, o = some v → v < 364) (hx : x = encC o) {hi' : HI} (h12 : hi' 12 = updF (hi 12) n x) (h10 : hi' 10 = hi 10) (h11 : hi' 11 = hi 11) (h13 : hi' 13 = hi 13) (h14 : hi' 14 = hi 14) (h15 : hi' 15 = hi 15) (h16 : hi' 16 = hi 16) : CR hi' 10 (setTe σ n o) := by
  obtain ⟨⟨w1, w2, w3, w4, w5, w6⟩, h1, h2, h3, h4, h5, h6⟩ := h
  refine ⟨⟨w1, fun b hb v hbv => ?_, w3, w4, w5, w6⟩, fun b hb => ?_, fun b hb => ?_, ?_, fun p hp => ?_, ?_, ?_⟩
  · have hbv : updF (te σ) n o b = some v := hbv
    by_cases e : b = n
    · rw [e, updF_s] at hbv; exact hv v hbv
    · rw [updF_n e] at hbv; exact w2 b hb v hbv
  · show hi' 11 b = _; rw [h11]; exact h1 b hb
  · show hi' 12 b = encC (updF (te σ) n o b)
    rw [h12]
    by_cases e : b = n
    · rw [e, updF_s, updF_s, hx]
    · rw [updF_n e, updF_n e]; exact h2 b hb
  · show hi' 13 3 = _; rw [h13]; exact h3
  · show hi' 14 p = _ ∧ hi' 15 p = _ ∧ hi' 16 p = _; rw [h14, h15, h16]; exact h4 p hp
  · show hi' 10 3 = _; rw [h10]; exact h5
  · show hi' 10 4 = _; rw [h10]; exact h6
/-- who hears and who is silent doesn't hang on what is said -/
theorem hB_same {σ τ : SG} {first : Bool} {w u : WS} {p : Nat} (h1 : so τ = so σ) (h2 : sp' τ = sp' σ) (h3 : he τ = he σ) (e2 : u.2 = w.2) (e1 : ∀ x, (u.1 x).isSome = (w.1 x).isSome) : hearsB τ first u p = hearsB σ first w p := by
  unfold hearsB ansB
  rw [h1, h2, h3, e2, e1]
theorem st_same {σ τ : SG} {first : Bool} {w u : WS} {p b b' y y' : Nat} (h1 : so τ = so σ) (h2 : sp' τ = sp' σ) (h3 : he τ = he σ) (e2 : u.2 = w.2) (e1 : ∀ x, (u.1 x).isSome = (w.1 x).isSome) : (wstep τ b' first y' u p).2 = (wstep σ b first y w p).2 ∧ ∀ x, ((wstep τ b' first y' u p).1 x).isSome = ((wstep σ b first y w p).1 x).isSome := by
  have hb := hB_same (first := first) (p := p) h1 h2 h3 e2 e1
  constructor
  · show (updF u.2.1 p (hearsB τ first u p), siF τ u p) = (updF w.2.1 p (hearsB σ first w p), siF σ w p)
    unfold siF
    rw [hb, e2, h2, h3]
  · intro x
    show ((if hearsB τ first u p then _ else u.1 : Nat → Option Nat) x).isSome = ((if hearsB σ first w p then _ else w.1 : Nat → Option Nat) x).isSome
    rw [hb]
    split
    · rw [h3]
      by_cases e : x = he σ p
      · rw [e, updF_s, updF_s]; rfl
      · rw [updF_n e, updF_n e]; exact e1 x
    · exact e1 x
theorem run_same {σ τ : SG} {first : Bool} {b b' : Nat} {bys bys' : Nat → Nat} (h1 : so τ = so σ) (h2 : sp' τ = sp' σ) (h3 : he τ = he σ) : ∀ p, (wrun τ b' first bys' wZ p).2 = (wrun σ b first bys wZ p).2 ∧ ∀ x, ((wrun τ b' first bys' wZ p).1 x).isSome = ((wrun σ b first bys wZ p).1 x).isSome
  | 0 => ⟨rfl, fun _ => rfl⟩
  | p + 1 => st_same h1 h2 h3 (run_same h1 h2 h3 p).1 (run_same h1 h2 h3 p).2
theorem heard_same {σ τ : SG} (h1 : so τ = so σ) (h2 : sp' τ = sp' σ) (h3 : he τ = he σ) (h4 : nn τ = nn σ) : heardF τ = heardF σ := by
  unfold heardF wD
  rw [h4, (run_same (b := bg σ) (b' := bg τ) (first := true) (bys := di σ) (bys' := di τ) h1 h2 h3 (nn σ)).1]
theorem hI_same {σ τ : SG} {L : Int} (h : te τ = te σ) : ∀ k, hI τ L k = hI σ L k
  | 0 => rfl
  | k + 1 => by
    show (match te τ k with | none => hI τ L k | some w => if (k : Int) = L then hI τ L k else bindH (hI τ L k) k w) = _
    rw [h, hI_same h k]; rfl
theorem hRec_same {σ τ : SG} {H : Nat → Bool} {L : Int} (h1 : so τ = so σ) (h2 : sp' τ = sp' σ) (h3 : he τ = he σ) (h4 : nn τ = nn σ) (h5 : te τ = te σ) : ∀ i, hRec τ H L i = hRec σ H L i
  | 0 => hI_same h5 6
  | i + 1 => by
    show (if H (nn τ - 1 - i) then gbH (hRec τ H L i) (sp' τ (nn τ - 1 - i)) (he τ (nn τ - 1 - i)) (so τ (he τ (nn τ - 1 - i))) else hRec τ H L i) = _
    rw [h1, h2, h3, h4, hRec_same h1 h2 h3 h4 h5 i]; rfl
theorem hS_same {σ τ : SG} {L : Int} (h1 : so τ = so σ) (h2 : sp' τ = sp' σ) (h3 : he τ = he σ) (h4 : nn τ = nn σ) (h5 : te τ = te σ) : hS τ L = hS σ L := by
  unfold hS hFin
  rw [heard_same h1 h2 h3 h4, h4, hRec_same h1 h2 h3 h4 h5]
theorem fw_same {σ τ : SG} {b : Nat} (h1 : so τ = so σ) (h2 : sp' τ = sp' σ) (h3 : he τ = he σ) (h4 : nn τ = nn σ) (h5 : te τ = te σ) : fwF τ b = fwF σ b := by
  unfold fwF cX
  rw [h5, hS_same h1 h2 h3 h4 h5]
theorem fr_same {hi hl : HI} {σ τ : SG} (h1 : so τ = so σ) (h2 : sp' τ = sp' σ) (h3 : he τ = he σ) (h4 : nn τ = nn σ) (h5 : te τ = te σ) (h : hi 0 11 = 0 ∨ (hi 0 11 = 1 ∧ HQ (hS σ (-1)) (hi 44) (hl 52) (hi 36) (hl 36))) : hi 0 11 = 0 ∨ (hi 0 11 = 1 ∧ HQ (hS τ (-1)) (hi 44) (hl 52) (hi 36) (hl 36)) := by rw [hS_same h1 h2 h3 h4 h5]; exact h
theorem wo_same {hi : HI} {σ τ : SG} (h1 : so τ = so σ) (h2 : sp' τ = sp' σ) (h3 : he τ = he σ) (h4 : nn τ = nn σ) (h5 : te τ = te σ) (h : hi 0 12 = 0 ∨ (hi 0 12 = 1 ∧ ∀ b, b < 6 → hi 72 b = fwF σ b)) : hi 0 12 = 0 ∨ (hi 0 12 = 1 ∧ ∀ b, b < 6 → hi 72 b = fwF τ b) := by
  rcases h with h | ⟨h, h6⟩
  · exact Or.inl h
  · exact Or.inr ⟨h, fun b hb => by rw [fw_same h1 h2 h3 h4 h5]; exact h6 b hb⟩
theorem encC_b {w : WS} (h : okW w) (b : Nat) : encC (w.1 b) = -1 ∨ (0 ≤ encC (w.1 b) ∧ encC (w.1 b) < 364) := by
  cases e : w.1 b with
  | none => exact Or.inl rfl
  | some v => right; have := h.1 b v e; show 0 ≤ ((v : Nat) : Int) ∧ ((v : Nat) : Int) < 364; omega
theorem CR_copy {hi hi' : HI} {σ : SG} (c d : Nat) {s1 s2 d1 d2 d3 : Nat → Int} (h : CR hi c σ) (hs : ∀ j, j < 6 → s1 j = hi (c + 1) j ∧ s2 j = hi (c + 2) j) (hd : ∀ j, j < 16 → d1 j = hi (c + 4) j ∧ d2 j = hi (c + 5) j ∧ d3 j = hi (c + 6) j)
    (e1 : hi' (d + 1) = s1) (e2 : hi' (d + 2) = s2) (e3 : hi' (d + 3) 3 = hi (c + 3) 3) (e4 : hi' (d + 4) = d1) (e5 : hi' (d + 5) = d2) (e6 : hi' (d + 6) = d3) (e7 : hi' d 3 = hi c 3) (e8 : hi' d 4 = hi c 4) : CR hi' d σ := by
  obtain ⟨w1, h1, h2, h3, h4, h5, h6⟩ := h
  refine ⟨w1, fun b hb => ?_, fun b hb => ?_, ?_, fun p hp => ?_, ?_, ?_⟩
  · rw [e1, (hs b hb).1]; exact h1 b hb
  · rw [e2, (hs b hb).2]; exact h2 b hb
  · rw [e3]; exact h3
  · have hp16 := w1.2.2.1
    have hh := hd p (by omega)
    rw [e4, e5, e6, hh.1, hh.2.1, hh.2.2]; exact h4 p hp
  · rw [e7]; exact h5
  · rw [e8]; exact h6
theorem ctF_congr {c d : Nat → Int} {x : Int} (h : ∀ v, v < 364 → c v = d v) : ∀ k, k ≤ 364 → ctF c x k = ctF d x k
  | 0, _ => rfl
  | k + 1, hk => by rw [ctF_s, ctF_s, ctF_congr h k (by omega), h k (by omega)]
theorem tgF_s (σ : SG) (k : Int) (b : Nat) : tgF σ k (b + 1) = if fwF σ b ≤ k then tgF σ k b ||| 1 * 2 ^ b else tgF σ k b := rfl
theorem tgF_lt (σ : SG) (k : Int) : ∀ b, tgF σ k b < 2 ^ b
  | 0 => by show 0 < 1; omega
  | b + 1 => by
    have h := tgF_lt σ k b
    rw [tgF_s]
    split
    · exact bw_or h
    · have := Nat.pow_lt_pow_right (show 1 < 2 by omega) (show b < b + 1 by omega); omega
theorem lsF_s (σ : SG) (x b d : Nat) : lsF σ x b (d + 1) = if lsF σ x b d ≠ -6 then lsF σ x b d else if encC ((yrun σ x (d + 1)).1.1 b) ≠ (bg σ : Nat) then ((d + 1 : Nat) : Int) else -6 := rfl
theorem lsF_hit {σ : SG} {x b d : Nat} (h : lsF σ x b d = -6) (h2 : encC ((yrun σ x (d + 1)).1.1 b) ≠ (bg σ : Nat)) : ∀ n, d < n → lsF σ x b n = ((d + 1 : Nat) : Int) := by
  intro n hn
  induction n with
  | zero => omega
  | succ n ih =>
    rw [lsF_s]
    by_cases e : n = d
    · subst e; rw [if_neg (by omega), if_pos h2]
    · have := ih (by omega); rw [if_pos (by rw [this]; omega), this]
theorem lsF_go {σ : SG} {x b d : Nat} (h : lsF σ x b d = -6) (h2 : ¬ encC ((yrun σ x (d + 1)).1.1 b) ≠ (bg σ : Nat)) : lsF σ x b (d + 1) = -6 := by rw [lsF_s, if_neg (by omega), if_neg h2]
theorem encC_t {σ : SG} (hs : WF σ) {b : Nat} (hb : b < 6) : encC (te σ b) = -1 ∨ (0 ≤ encC (te σ b) ∧ encC (te σ b) < 364) := by
  cases e : te σ b with
  | none => exact Or.inl rfl
  | some v => right; have := hs.2.1 b hb v e; show 0 ≤ ((v : Nat) : Int) ∧ ((v : Nat) : Int) < 364; omega
