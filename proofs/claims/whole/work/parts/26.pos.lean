/-! how many histories at most: no long runs over -/
theorem slN_11 : ∀ s, s < 4 → ∀ v, v < 364 → slN s v ≤ 11 := by decide +kernel
theorem sl_nd : ∀ s, s < 4 → ∀ v, v < 364 → (v :: slL s v).Nodup := by decide +kernel
theorem slN_l {s v : Nat} (hs : s ≤ 4) (hv : v < 364) : slN s v ≤ 11 := by
  rcases Nat.lt_or_ge s 4 with q | q
  · exact slN_11 s q v hv
  · rw [slN_0 (by omega)]; omega
theorem nth_nd {s v i j : Nat} (hs : s ≤ 4) (hv : v < 364) (hi : i < j) (hj : j ≤ slN s v) : nth s v i ≠ nth s v j := by
  have hs4 : s < 4 := by
    rcases Nat.lt_or_ge s 4 with q | q
    · exact q
    · have := slN_0 (s := s) (v := v) (by omega); omega
  have hl : (slL s v).length = slN s v := rfl
  have hn := List.nodup_cons.mp (sl_nd s hs4 v hv)
  rw [nth_in (show 1 ≤ j ∧ j ≤ slN s v by omega)]
  by_cases e : i = 0
  · rw [e, nth_0 (by omega)]
    intro q
    exact hn.1 (mem_of_at (i := j - 1) (by omega) q.symm)
  · rw [nth_in (show 1 ≤ i ∧ i ≤ slN s v by omega)]
    intro q
    have h1 : i - 1 < (slL s v).length := by omega
    have h2 : j - 1 < (slL s v).length := by omega
    have g1 : (slL s v).getD (i - 1) 0 = (slL s v)[i - 1]'h1 := by simp [List.getD, List.getElem?_eq_getElem h1]
    have g2 : (slL s v).getD (j - 1) 0 = (slL s v)[j - 1]'h2 := by simp [List.getD, List.getElem?_eq_getElem h2]
    rw [g1, g2] at q
    have := (List.getElem_inj (h₀ := h1) (h₁ := h2) hn.2).mp q
    omega
theorem wgs_pos {c n : Nat → Int} {so v : Nat} {B : Int} (hs : so ≤ 4) (hv : v < 364) (hn : ∀ j, j < 364 → 0 ≤ n j ∧ n j ≤ B) (hc : ∀ j, j < 364 → c j < 1000 → 1 ≤ n j) (hB : 12 * B < 9223372036854775808) : ∀ k, k ≤ 11 → 0 ≤ (wgs c n so v k).2 ∧ (wgs c n so v k).2 ≤ ((k + 1 : Nat) : Int) * B ∧ ((wgs c n so v k).1 < 1000 → 1 ≤ (wgs c n so v k).2)
  | 0, _ => by
    have := hn v hv
    refine ⟨this.1, ?_, hc v hv⟩
    show n v ≤ ((1 : Nat) : Int) * B
    omega
  | k + 1, hk => by
    have ih := wgs_pos hs hv hn hc hB k (by omega)
    have hl := nth_lt (n := k + 1) hs hv
    have h1 := hn _ hl
    have h2 := hc _ hl
    have hB0 : 0 ≤ B := by omega
    have e1 : ((k + 1 + 1 : Nat) : Int) * B = ((k + 1 : Nat) : Int) * B + B := by rw [show ((k + 1 + 1 : Nat) : Int) = ((k + 1 : Nat) : Int) + 1 by omega, Int.add_mul, Int.one_mul]
    have e2 : ((k + 1 + 1 : Nat) : Int) * B ≤ 12 * B := Int.mul_le_mul_of_nonneg_right (by omega) hB0
    by_cases a : (wgs c n so v k).1 < c (nth so v (k + 1)) + 1
    · rw [wgs_skip a]
      exact ⟨ih.1, by rw [e1]; omega, ih.2.2⟩
    · by_cases b : c (nth so v (k + 1)) + 1 < (wgs c n so v k).1
      · rw [wgs_lt b]
        refine ⟨h1.1, ?_, fun q => h2 (by dsimp only at q; omega)⟩
        have : 0 ≤ ((k + 1 : Nat) : Int) * B := Int.mul_nonneg (by omega) hB0
        rw [e1]; dsimp only; omega
      · rw [wgs_eq a b]
        dsimp only
        have e3 : w64 ((wgs c n so v k).2 + n (nth so v (k + 1))) = (wgs c n so v k).2 + n (nth so v (k + 1)) := w64_id ⟨by omega, by omega⟩
        rw [e3]
        refine ⟨by omega, by rw [e1]; omega, fun q => ?_⟩
        have := h2 (by omega)
        omega
/-- a bird of whom one saying is told, gone back over by nothing yet -/
def Leaf (c n : Nat → Int) : Prop := ∃ w, ∀ v, v < 364 → n v = (if v = w then 1 else 0)
theorem wgs_leaf {c n : Nat → Int} {so v : Nat} (hs : so ≤ 4) (hv : v < 364) {w : Nat} (hw : ∀ v, v < 364 → n v = (if v = w then 1 else 0)) : ∀ k, k ≤ slN so v → 0 ≤ (wgs c n so v k).2 ∧ (wgs c n so v k).2 ≤ 1 ∧ ((wgs c n so v k).2 = 1 → ∃ i, i ≤ k ∧ nth so v i = w)
  | 0, _ => by
    have e : (wgs c n so v 0).2 = n v := rfl
    rw [e, hw v hv]
    split
    · rename_i q; exact ⟨by omega, by omega, fun _ => ⟨0, by omega, by rw [nth_0 (by omega)]; exact q⟩⟩
    · exact ⟨by omega, by omega, fun q => by omega⟩
  | k + 1, hk => by
    have ih := wgs_leaf (c := c) hs hv hw k (by omega)
    have hl := nth_lt (n := k + 1) hs hv
    have h1 := hw _ hl
    by_cases a : (wgs c n so v k).1 < c (nth so v (k + 1)) + 1
    · rw [wgs_skip a]
      refine ⟨ih.1, ih.2.1, fun q => ?_⟩
      obtain ⟨i, hi, e⟩ := ih.2.2 q
      exact ⟨i, by omega, e⟩
    · by_cases b : c (nth so v (k + 1)) + 1 < (wgs c n so v k).1
      · rw [wgs_lt b]
        dsimp only
        rw [h1]
        split
        · rename_i q; exact ⟨by omega, by omega, fun _ => ⟨k + 1, by omega, q⟩⟩
        · exact ⟨by omega, by omega, fun q => by omega⟩
      · rw [wgs_eq a b]
        dsimp only
        by_cases q : nth so v (k + 1) = w
        · rw [if_pos q] at h1
          have h0 : (wgs c n so v k).2 = 0 := by
            rcases (show (wgs c n so v k).2 = 0 ∨ (wgs c n so v k).2 = 1 by omega) with z | z
            · exact z
            · obtain ⟨i, hi, e⟩ := ih.2.2 z
              exact absurd (e.trans q.symm) (nth_nd hs hv (by omega) hk)
          rw [h0, h1]
          have e3 : w64 (0 + 1) = 1 := by decide
          rw [e3]
          exact ⟨by omega, by omega, fun _ => ⟨k + 1, by omega, q⟩⟩
        · rw [if_neg q] at h1
          rw [h1, Int.add_zero, w64_id ⟨by omega, by omega⟩]
          refine ⟨ih.1, ih.2.1, fun z => ?_⟩
          obtain ⟨i, hi, e⟩ := ih.2.2 z
          exact ⟨i, by omega, e⟩
def sum7 (j : Nat → Nat) : Nat := j 0 + j 1 + j 2 + j 3 + j 4 + j 5 + j 6
theorem sum7_le {j : Nat → Nat} {s : Nat} (hs : s ≤ 6) : j s ≤ sum7 j := by
  unfold sum7
  rcases (show s = 0 ∨ s = 1 ∨ s = 2 ∨ s = 3 ∨ s = 4 ∨ s = 5 ∨ s = 6 by omega) with e | e | e | e | e | e | e <;> rw [e] <;> omega
theorem sum7_up {j : Nat → Nat} {s x : Nat} (hs : s ≤ 6) : sum7 (updF j s x) + j s = sum7 j + x := by
  unfold sum7 updF
  rcases (show s = 0 ∨ s = 1 ∨ s = 2 ∨ s = 3 ∨ s = 4 ∨ s = 5 ∨ s = 6 by omega) with e | e | e | e | e | e | e <;> subst e <;> simp <;> omega
/-- exponents of 12 that bound the rows -/
def Bj (S : HS) (j : Nat → Nat) : Prop := ∀ s, s ≤ 6 → ∀ v, v < 364 → 0 ≤ S.2.1 s v ∧ S.2.1 s v ≤ ((12 ^ j s : Nat) : Int) ∧ (S.1 s v < 1000 → 1 ≤ S.2.1 s v)
def Pj (S : HS) (i : Nat) : Prop := ∃ j, Bj S j ∧ ((∀ s, s ≤ 6 → j s = 0 ∧ (S.2.2 s = true → Leaf (S.1 s) (S.2.1 s))) ∨ sum7 j + 1 ≤ i)
theorem Bj_up {S : HS} {j : Nat → Nat} {s x : Nat} {g m : Nat → Int} {b : Nat → Bool} (h : Bj S j) (hg : ∀ v, v < 364 → 0 ≤ m v ∧ m v ≤ ((12 ^ x : Nat) : Int) ∧ (g v < 1000 → 1 ≤ m v)) : Bj (upR S.1 s g, upR S.2.1 s m, b) (updF j s x) := by
  intro t ht v hv
  show 0 ≤ upR S.2.1 s m t v ∧ upR S.2.1 s m t v ≤ ((12 ^ updF j s x t : Nat) : Int) ∧ (upR S.1 s g t v < 1000 → 1 ≤ upR S.2.1 s m t v)
  by_cases e : t = s
  · rw [e, upR_s, upR_s, updF_s]; exact hg v hv
  · rw [upR_n e, upR_n e, updF_n e]; exact h t ht v hv
theorem cap_lt {x : Int} (h : cap x < 1000) : x < 1000 := by unfold cap at h; split at h <;> omega
theorem p12 {e : Nat} (h : e ≤ 15) : ((12 ^ e : Nat) : Int) ≤ 15407021574586368 := by
  have h1 := Nat.pow_le_pow_right (show 0 < 12 by omega) h
  have h2 : 12 ^ 15 = 15407021574586368 := by decide
  omega
theorem Pj_gb {S : HS} {i s h so : Nat} (hP : Pj S i) (hi : i ≤ 15) (hs : s ≤ 6) (hh : h ≤ 5) (hne : s ≠ h) (hso : so ≤ 4) (hb0 : BdH S) : Pj (gbH S s h so) (i + 1) := by
  obtain ⟨j, hB, hd⟩ := hP
  by_cases hb : S.2.2 h = true
  · -- the exponent of what is weighed
    obtain ⟨e, he, hsum⟩ : ∃ e, (∀ v, v < 364 → 0 ≤ (wg (S.1 h) (S.2.1 h) so v).2 ∧ (wg (S.1 h) (S.2.1 h) so v).2 ≤ ((12 ^ e : Nat) : Int) ∧ ((wg (S.1 h) (S.2.1 h) so v).1 < 1000 → 1 ≤ (wg (S.1 h) (S.2.1 h) so v).2)) ∧ sum7 j + e ≤ i + j h := by
      rcases hd with hd | hd
      · obtain ⟨w, hw⟩ := (hd h (by omega)).2 hb
        refine ⟨0, fun v hv => ?_, ?_⟩
        · have h1 := wgs_leaf (c := S.1 h) hso hv hw (slN so v) (Nat.le_refl _)
          have hjh := (hd h (by omega)).1
          have h2 := wgs_pos (c := S.1 h) (n := S.2.1 h) (so := so) (B := 1) hso hv (fun k hk => by have := hB h (by omega) k hk; rw [hjh] at this; exact ⟨this.1, this.2.1⟩) (fun k hk => (hB h (by omega) k hk).2.2) (by omega) (slN so v) (slN_l hso hv)
          exact ⟨h1.1, h1.2.1, h2.2.2⟩
        · have : ∀ s, s ≤ 6 → j s = 0 := fun s hs => (hd s hs).1
          unfold sum7
          rw [this 0 (by omega), this 1 (by omega), this 2 (by omega), this 3 (by omega), this 4 (by omega), this 5 (by omega), this 6 (by omega)]; omega
      · refine ⟨j h + 1, fun v hv => ?_, by omega⟩
        have hjl := sum7_le (j := j) (show h ≤ 6 by omega)
        have hp := p12 (show j h + 1 ≤ 15 by omega)
        have ep : ((12 ^ (j h + 1) : Nat) : Int) = 12 * ((12 ^ j h : Nat) : Int) := by rw [Nat.pow_succ]; omega
        have h2 := wgs_pos (c := S.1 h) (n := S.2.1 h) (so := so) (B := ((12 ^ j h : Nat) : Int)) hso hv (fun k hk => ⟨(hB h (by omega) k hk).1, (hB h (by omega) k hk).2.1⟩) (fun k hk => (hB h (by omega) k hk).2.2) (by omega) (slN so v) (slN_l hso hv)
        refine ⟨h2.1, Int.le_trans h2.2.1 ?_, h2.2.2⟩
        rw [ep]
        have := slN_l hso hv
        exact Int.mul_le_mul_of_nonneg_right (by omega) (Int.natCast_nonneg _)
    have hjs := sum7_le (j := j) hs
    have hjh := sum7_le (j := j) (show h ≤ 6 by omega)
    have e1 := sum7_up (j := j) (s := s) (x := j s + e) hs
    have e2 := sum7_up (j := updF j s (j s + e)) (s := h) (x := 0) (show h ≤ 6 by omega)
    rw [updF_n (Ne.symm hne)] at e2
    have hlow : j s + e ≤ 15 := by
      have : j s + j h ≤ sum7 j := by
        have a1 := sum7_up (j := j) (s := s) (x := 0) hs
        have a2 := sum7_le (j := updF j s 0) (show h ≤ 6 by omega)
        rw [updF_n (Ne.symm hne)] at a2
        omega
      omega
    unfold gbH
    rw [if_pos hb]
    refine ⟨updF (updF j s (j s + e)) h 0, ?_, Or.inr (by omega)⟩
    refine Bj_up (S := (upR S.1 s (gbC (S.1 h) (S.2.1 h) (S.1 s) so), upR S.2.1 s (gbN (S.1 h) (S.2.1 h) (S.2.1 s) so), updF S.2.2 s true)) (Bj_up hB (fun v hv => ?_)) (fun v hv => ⟨by omega, by omega, fun _ => by omega⟩)
    have b1 := hB s hs v hv
    have b2 := he v hv
    have b3 := wg_b (n := S.2.1 h) hso hv (hb0 h (by omega))
    have b4 := hb0 s hs v hv
    have hm0 : 0 ≤ S.2.1 s v * (wg (S.1 h) (S.2.1 h) so v).2 := Int.mul_nonneg b1.1 b2.1
    have hm1 : S.2.1 s v * (wg (S.1 h) (S.2.1 h) so v).2 ≤ ((12 ^ (j s + e) : Nat) : Int) := by
      rw [Nat.pow_add, Int.natCast_mul]
      exact Int.mul_le_mul b1.2.1 b2.2.1 b2.1 (by omega)
    have hp := p12 hlow
    have ew : gbN (S.1 h) (S.2.1 h) (S.2.1 s) so v = S.2.1 s v * (wg (S.1 h) (S.2.1 h) so v).2 := w64_id ⟨by omega, by omega⟩
    rw [ew]
    refine ⟨hm0, hm1, fun q => ?_⟩
    have q2 := cap_lt q
    have c1 := b1.2.2 (by omega)
    have c2 := b2.2.2 (by omega)
    have := Int.mul_le_mul c1 c2 (by omega) (by omega)
    omega
  · have e : S.2.2 h = false := by cases hx : S.2.2 h; { rfl }; { exact absurd hx hb }
    rw [gb_F e]
    exact ⟨j, hB, hd.imp id (fun q => by omega)⟩
theorem Pj_I (σ : SG) (L : Int) : ∀ k, Bj (hI σ L k) (fun _ => 0) ∧ ∀ s, s ≤ 6 → ((hI σ L k).2.2 s = true → Leaf ((hI σ L k).1 s) ((hI σ L k).2.1 s))
  | 0 => ⟨fun s hs v hv => ⟨by show 0 ≤ (1 : Int); omega, by show (1 : Int) ≤ 1; omega, fun _ => by show (1 : Int) ≤ 1; omega⟩, fun s hs h => by cases h⟩
  | k + 1 => by
    have ih := Pj_I σ L k
    cases ht : te σ k with
    | none => rw [hI_none ht]; exact ih
    | some w =>
      by_cases hk : (k : Int) = L
      · rw [hI_L hk]; exact ih
      · rw [hI_b ht hk]
        refine ⟨?_, fun s hs hb => ?_⟩
        · have := Bj_up (s := k) (x := 0) (g := fun v => if v = w then 0 else 1000) (m := fun v => if v = w then 1 else 0) (b := updF (hI σ L k).2.2 k true) ih.1 (fun v hv => by
            split
            · exact ⟨by omega, by show (1 : Int) ≤ 1; omega, fun _ => by omega⟩
            · exact ⟨by omega, by show (0 : Int) ≤ 1; omega, fun q => by omega⟩)
          rw [updF_id rfl] at this
          exact this
        · show Leaf (upR (hI σ L k).1 k (fun v => if v = w then 0 else 1000) s) (upR (hI σ L k).2.1 k (fun v => if v = w then 1 else 0) s)
          have hb : updF (hI σ L k).2.2 k true s = true := hb
          by_cases e : s = k
          · rw [e, upR_s, upR_s]; exact ⟨w, fun v hv => rfl⟩
          · rw [upR_n e, upR_n e]; rw [updF_n e] at hb; exact ih.2 s hs hb
theorem Pj_rec {σ : SG} {H : Nat → Bool} {L : Int} (hs : WF σ) (hH : HOK σ H) : ∀ i, i ≤ nn σ → Pj (hRec σ H L i) i
  | 0, _ => ⟨fun _ => 0, (Pj_I σ L 6).1, Or.inl (fun s hs => ⟨rfl, (Pj_I σ L 6).2 s hs⟩)⟩
  | i + 1, hi => by
    have ih := Pj_rec (L := L) hs hH i (by omega)
    have hp := hs.2.2.2.1 (nn σ - 1 - i) (by omega)
    have hn := hs.2.2.1
    show Pj (if _ then _ else _) (i + 1)
    split
    · rename_i e
      exact Pj_gb ih (by omega) (hH _ (by omega) e) hp.2.1 hp.2.2.2 (hs.1 _ (by omega)) (BdH_rec hs hH i (by omega))
    · obtain ⟨j, hB, hd⟩ := ih
      exact ⟨j, hB, hd.imp id (fun q => by omega)⟩
theorem nX_b {σ : SG} (hs : WF σ) (hm : mX σ < 1000) : ∀ v, v < 364 → 0 ≤ nX σ (-1) v ∧ nX σ (-1) v ≤ 15407021574586368 ∧ (cX σ (-1) v < 1000 → 1 ≤ nX σ (-1) v) := by
  have hF : anyB (hRec σ (heardF σ) (-1) (nn σ)).2.2 6 = false := by
    cases h : anyB (hRec σ (heardF σ) (-1) (nn σ)).2.2 6 with
    | false => rfl
    | true =>
      exfalso
      obtain ⟨v, hv, hv2⟩ := mnF_ex 364 hm
      have : cX σ (-1) v = 1000 := by
        unfold cX hS
        rw [hFin_t h]
        show upR (hRec σ (heardF σ) (-1) (nn σ)).1 6 (fun _ => 1000) 6 v = 1000
        rw [upR_s]
      have hm : mnF (cX σ (-1)) 364 < 1000 := hm
      omega
  intro v hv
  obtain ⟨j, hB, hd⟩ := Pj_rec (L := -1) hs (HOK_D hs) (nn σ) (Nat.le_refl _)
  have h6 := hB 6 (Nat.le_refl _) v hv
  have hj : j 6 ≤ 15 := by
    have hn := hs.2.2.1
    rcases hd with hd | hd
    · have := (hd 6 (Nat.le_refl _)).1; omega
    · have := sum7_le (j := j) (Nat.le_refl 6); omega
  have hp := p12 hj
  unfold nX cX hS
  rw [hFin_f hF]
  exact ⟨h6.1, by omega, h6.2.2⟩
theorem odds_pos {σ : SG} (hs : WF σ) (hm : mX σ < 1000) : 1 ≤ (tX σ).2.2 ∧ (tX σ).2.2 < 9223372036854775808 ∧ ∀ v, v < 364 → 0 ≤ wX σ v ∧ wX σ v < 9223372036854775808 := by
  have hb := nX_b hs hm
  have key : ∀ i, i ≤ 364 → 0 ≤ (tlF (cX σ (-1)) (nX σ (-1)) (mX σ) 0 i).1 ∧ (tlF (cX σ (-1)) (nX σ (-1)) (mX σ) 0 i).1 ≤ (tlF (cX σ (-1)) (nX σ (-1)) (mX σ) 0 i).2.2 ∧ (tlF (cX σ (-1)) (nX σ (-1)) (mX σ) 0 i).2.2 ≤ (i : Int) * 15407021574586368 ∧ ((∃ v, 364 - i ≤ v ∧ v < 364 ∧ cX σ (-1) v = mX σ) → 1 ≤ (tlF (cX σ (-1)) (nX σ (-1)) (mX σ) 0 i).1) := by
    intro i
    induction i with
    | zero =>
      intro _
      refine ⟨by show 0 ≤ (0 : Int); omega, by show (0 : Int) ≤ 0; omega, by show (0 : Int) ≤ ((0 : Nat) : Int) * _; omega, fun ⟨v, h1, h2, _⟩ => by omega⟩
    | succ i ih =>
      intro hi
      obtain ⟨a1, a2, a3, a4⟩ := ih (by omega)
      have hv := hb (363 - i) (by omega)
      rw [tlF_s]
      by_cases e : cX σ (-1) (363 - i) = mX σ
      · rw [if_pos e]
        dsimp only
        have h1 := hv.2.2 (by omega)
        have e64 : w64 ((tlF (cX σ (-1)) (nX σ (-1)) (mX σ) 0 i).2.2 + nX σ (-1) (363 - i)) = (tlF (cX σ (-1)) (nX σ (-1)) (mX σ) 0 i).2.2 + nX σ (-1) (363 - i) := w64_id ⟨by omega, by omega⟩
        rw [e64]
        exact ⟨by omega, by omega, by omega, fun _ => by omega⟩
      · rw [if_neg e]
        refine ⟨a1, a2, by omega, fun ⟨v, h1, h2, h3⟩ => a4 ⟨v, ?_, h2, h3⟩⟩
        by_cases q : v = 363 - i
        · rw [q] at h3; exact absurd h3 e
        · omega
  obtain ⟨v, hv, hv2⟩ := mnF_ex 364 hm
  obtain ⟨b1, b2, b3, b4⟩ := key 364 (Nat.le_refl _)
  have b5 := b4 ⟨v, by omega, hv, hv2⟩
  refine ⟨by show 1 ≤ (tlF (cX σ (-1)) (nX σ (-1)) (mX σ) 0 364).2.2; omega, by show (tlF (cX σ (-1)) (nX σ (-1)) (mX σ) 0 364).2.2 < _; omega, fun w hw => ?_⟩
  have := hb w hw
  unfold wX
  split <;> omega
