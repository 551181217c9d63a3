section VMna
variable {e e1 : EV} {sc : ST} {K : KK} {pc : Nat} {ls : List (Nat × AV)} {st : List AV} {hi hl : HI} {cs ss : Nat} {Q : QT}
def adM (ad : Nat → Nat) (N w h0 : Nat) : Nat → Nat := fun j => if N ≤ j ∧ j < N + w then h0 + (j - N) else ad j
theorem adM_o {ad : Nat → Nat} {N w h0 j : Nat} (h : j < N ∨ N + w ≤ j) : adM ad N w h0 j = ad j := by unfold adM; rw [if_neg (by omega)]
theorem adM_i {ad : Nat → Nat} {N w h0 i : Nat} (h : i < w) : adM ad N w h0 (N + i) = h0 + i := by unfold adM; rw [if_pos (by omega)]; omega
def mnK (K : KK) (t n m : Nat) : KK := (K.1 ++ (.inl (t + 4, n) :: List.replicate n (.inl (t, m))), upR K.2 K.1.length (fun i => if i < n then some (K.1.length + 1 + i) else none))
theorem mnK_len {K : KK} {t n m : Nat} : (mnK K t n m).1.length = K.1.length + (1 + n) := by simp [mnK]; omega
theorem mnK_old {K : KK} {t n m k : Nat} (h : k < K.1.length) : (mnK K t n m).1.getD k (.inr 0) = K.1.getD k (.inr 0) := by simp [mnK, List.getD, List.getElem?_append_left h]
theorem mnK_out {K : KK} {t n m : Nat} : (mnK K t n m).1.getD K.1.length (.inr 0) = .inl (t + 4, n) := by simp [mnK, List.getD]
theorem mnK_in {K : KK} {t n m i : Nat} (h : i < n) : (mnK K t n m).1.getD (K.1.length + 1 + i) (.inr 0) = .inl (t, m) := by
  simp only [mnK, List.getD]
  rw [List.getElem?_append_right (by omega), show K.1.length + 1 + i - K.1.length = i + 1 by omega, List.getElem?_cons_succ, List.getElem?_replicate, if_pos h]
  rfl
set_option maxHeartbeats 2000000 in
theorem V.mna {idx : Nat} {zn zm : Int} {C : String} (t n m : Nat) (hcl : Cond.classLink e.1.cls idx C ∈ GT) (hC : C = "[" ++ (FieldType.array (ktOf t)).toString) (hd : decode e.2.1 pc = .ok (.multianewarray idx 2, 4)) (ht : t < 2) (hzn : zn = n) (hzm : zm = m) (hn : n < 1000) (hm : m < 1000)
    (hz : ∀ w, w < 1 + n → Z0 K hi hl (K.1.length + w)) (hN : K.1.length + (1 + n) < SC) (hcs : cs + (1 + n) ≤ e.2.2.2.2.cells) (hss : ss + (n + n * m) ≤ e.2.2.2.2.slots)
    (k : V e sc (mnK K t n m) (pc + 4) ls (vR K.1.length :: st) hi hl (cs + (1 + n)) (ss + (n + n * m)) Q) : V e sc K pc ls (vI zm :: vI zn :: st) hi hl cs ss Q := by
  intro N0 ad0 p l env s m0 args below meth c0 A dC dI dA Qs hS H locs ad lsA hW hD
  obtain ⟨hx, hb, hml, hown, hts, hnw, hK, hnm, hA, hsc, hR⟩ := id hS
  have hNS : K.1.length < SC := hW.2.2.2.2.1.2
  have hs1 := (List.forall_mem_cons.mp hD.tl)
  obtain ⟨a1, a2⟩ := i32_in (len := 1000) hzm hm hD.hd
  obtain ⟨b1, b2⟩ := i32_in (len := 1000) hzn hn hs1.1
  have hso := hs1.2
  have hmn : n * m ≤ 1000 * 1000 := Nat.mul_le_mul (by omega) (by omega)
  have hMO : MOv (dA (t + 4)) (dA t) (ktOf t) s := by
    rcases (show t = 0 ∨ t = 1 by omega) with rfl | rfl
    · exact hnw.2.2.1
    · exact hnw.2.2.2
  obtain ⟨kO, hkO, hkindO⟩ := hMO
  have hfO : s.vm.findClass C = some (dA (t + 4)) := by
    rw [hC]
    rcases (show t = 0 ∨ t = 1 by omega) with rfl | rfl
    · exact (hK.2 4 _ (tys_at dA (by omega))).2
    · exact (hK.2 5 _ (tys_at dA (by omega))).2
  obtain ⟨-, kI, hkI, cc, hkindI⟩ := (hK.2 t _ (tys_at dA (by omega))).1 0 (fun _ => .null)
  have hdd : fits (ktOf t) (defaultValue (ktOf t)) = true ∧ (defaultValue (ktOf t)).isDefault = true ∧ componentBytes (ktOf t) ≤ 8 := by rcases (show t = 0 ∨ t = 1 by omega) with rfl | rfl <;> decide +kernel
  intro T hT X
  obtain ⟨vm₁, X', step⟩ := mg_step X hx hown (hts _ hcl) hfO hkO hkindO hkI hkindI (g := F0 m0 pc lsA (.int (i32 zm) :: .int (i32 zn) :: st.map (cv ad))) rfl (by rw [hb]; exact hd) rfl (fun q => b1 (Or.inl q)) (fun q => a1 (Or.inl q)) (by rw [b2]; omega) (by rw [a2]; have := Nat.mul_le_mul_left m hdd.2.2; omega) (by rw [a2]; omega) hdd.1 hdd.2.1 (by rw [b2]; exact hcs) (by rw [b2, a2]; exact hss)
  rw [b2, a2] at X' step
  have hTh : (T.setVm vm₁).heap = H := hT
  generalize hF : mgS (T.setVm vm₁) (dA (t + 4)) (dA t) n m (defaultValue (ktOf t)) n = F at X' step
  have f1 : F.heap.size = H.size + 1 + n := by rw [← hF, mgS_size, hTh]
  have f2 : F.heap[H.size]? = some (mgO (dA (t + 4)) n H.size n) := by rw [← hF, ← hTh]; exact mgS_out n
  have f3 : ∀ a, a < H.size → F.heap[a]? = H[a]? := fun a ha => by rw [← hF, ← hTh]; exact mgS_old (by rw [hTh]; exact ha) n
  have f4 : ∀ j, j < n → F.heap[H.size + 1 + j]? = some (mgI (dA t) m (defaultValue (ktOf t))) := fun j hj => by rw [← hF, ← hTh]; exact mgS_in n j hj
  have hsz : H.size = T.heap.size := by rw [hT]
  have eold : ∀ j, j < K.1.length → adM ad K.1.length (1 + n) H.size j = ad j := fun j hj => adM_o (Or.inl hj)
  -- each cell of the new world
  have hat : ∀ (i : Nat) (q : Nat × va_E), (conc dA (adM ad K.1.length (1 + n) H.size) (mnK K t n m) hi hl)[i]? = some q → va_at (dC, dI) vwCl q F.heap ∧ ((i < K.1.length ∧ q.1 = ad i) ∨ (K.1.length ≤ i ∧ q.1 = H.size + (i - K.1.length))) := by
    intro i q hq
    obtain ⟨h1, h2, rfl⟩ := conc_some hq
    rw [mnK_len] at h1
    by_cases hi1 : i < K.1.length
    · refine ⟨?_, Or.inl ⟨hi1, eold i hi1⟩⟩
      rw [mnK_old hi1, eold i hi1, cellOf_ext (K := K) (ad := ad)]
      · have h3 : (conc dA ad K hi hl)[i]? = some (ad i, cellOf dA ad K hi hl i (K.1.getD i (.inr 0))) := conc_at (by simp [List.getD, List.getElem?_eq_getElem hi1])
        have h4 := hW.1 i _ h3
        exact h4.kept (f3 _ h4.lt)
      · intro j
        show (upR K.2 K.1.length _ i j).map _ = _
        rw [upR_n (Nat.ne_of_lt hi1)]
        exact map_ext (fun u hu => eold u (hW.2.2.2.2.1.1 i j u hi1 hu))
    · obtain ⟨w, rfl⟩ : ∃ w, i = K.1.length + w := ⟨i - K.1.length, by omega⟩
      have hw : w < 1 + n := by omega
      refine ⟨?_, Or.inr ⟨by omega, by rw [adM_i hw]; omega⟩⟩
      rw [adM_i hw]
      have hz1 := hz w hw
      by_cases hw0 : w = 0
      · subst hw0
        simp only [Nat.add_zero]
        rw [mnK_out]
        have hcell : cellOf dA (adM ad K.1.length (1 + n) H.size) (mnK K t n m) hi hl K.1.length (.inl (t + 4, n)) = .inl (dA (t + 4), n, .inr (.inr (.inr (.inr (fun j => (if j < n then some (H.size + 1 + j) else none)))))) := by
          have e9 : (fun j => ((mnK K t n m).2 K.1.length j).map (adM ad K.1.length (1 + n) H.size)) = (fun j => (if j < n then some (H.size + 1 + j) else none)) := by
            funext j
            show (upR K.2 K.1.length _ K.1.length j).map _ = _
            rw [upR_s]
            by_cases hj : j < n
            · simp only [if_pos hj, Option.map_some]
              rw [Nat.add_assoc, adM_i (by omega)]
              congr 1; omega
            · simp only [if_neg hj, Option.map_none]
          show (Sum.inl (dA (t + 1 + 3), n, .inr (.inr (.inr (.inr (fun j => ((mnK K t n m).2 K.1.length j).map (adM ad K.1.length (1 + n) H.size)))))) : va_E) = _
          rw [e9]
        rw [hcell]
        show F.heap[H.size]? = some (vp_cell (dA (t + 4)) (n, _))
        rw [f2, vp_cell_q]
        rfl
      · obtain ⟨u, rfl⟩ : ∃ u, w = 1 + u := ⟨w - 1, by omega⟩
        have e7 : K.1.length + (1 + u) = K.1.length + 1 + u := by omega
        rw [e7, mnK_in (t := t) (n := n) (m := m) (i := u) (by omega)]
        show va_at (dC, dI) vwCl (H.size + (1 + u), cellOf dA _ (mnK K t n m) hi hl (K.1.length + 1 + u) (.inl (t, m))) F.heap
        have e8 : K.1.length + 1 + u = K.1.length + (1 + u) := by omega
        rw [← Nat.add_assoc]
        rcases (show t = 0 ∨ t = 1 by omega) with rfl | rfl
        · show F.heap[H.size + 1 + u]? = some (vp_cell (dA 0) (m, .inl (fun j => i32 (hi (K.1.length + 1 + u) j))))
          rw [f4 u (by omega), vp_cell_i]
          exact congrArg some (congrArg (arrV (dA 0) m) (funext fun j => by rw [e8, (hz1 j).1]; rfl))
        · show F.heap[H.size + 1 + u]? = some (vp_cell (dA 1) (m, .inr (.inl (fun j => i64 (hl (K.1.length + 1 + u) j)))))
          rw [f4 u (by omega), vp_cell_l]
          exact congrArg some (congrArg (arrV (dA 1) m) (funext fun j => by rw [e8, (hz1 j).2.1]; rfl))
  have hlt : ∀ i, i < K.1.length → ad i < H.size := fun i hi1 => by
    have h3 : (conc dA ad K hi hl)[i]? = some (ad i, cellOf dA ad K hi hl i (K.1.getD i (.inr 0))) := conc_at (by simp [List.getD, List.getElem?_eq_getElem hi1])
    exact (hW.1 i _ h3).lt
  have hinj : ∀ i j, i < K.1.length → j < K.1.length → ad i = ad j → i = j := fun i j h1 h2 h3 => by
    have g1 : (conc dA ad K hi hl)[i]? = some (ad i, cellOf dA ad K hi hl i (K.1.getD i (.inr 0))) := conc_at (by simp [List.getD, List.getElem?_eq_getElem h1])
    have g2 : (conc dA ad K hi hl)[j]? = some (ad j, cellOf dA ad K hi hl j (K.1.getD j (.inr 0))) := conc_at (by simp [List.getD, List.getElem?_eq_getElem h2])
    exact hW.2.1.1 i j _ _ g1 g2 h3
  have hD1 : va_D A (conc dA (adM ad K.1.length (1 + n) H.size) (mnK K t n m) hi hl) := by
    refine ⟨fun i j x y hi1 hj1 hxy => ?_, fun i q hq => ?_⟩
    · rcases (hat i x hi1).2 with ⟨p1, p2⟩ | ⟨p1, p2⟩ <;> rcases (hat j y hj1).2 with ⟨q1, q2⟩ | ⟨q1, q2⟩
      · exact hinj i j p1 q1 (by rw [← p2, ← q2]; exact hxy)
      · have := hlt i p1; omega
      · have := hlt j q1; omega
      · omega
    · rcases (hat i q hq).2 with ⟨p1, p2⟩ | ⟨p1, p2⟩
      · have g1 : (conc dA ad K hi hl)[i]? = some (ad i, cellOf dA ad K hi hl i (K.1.getD i (.inr 0))) := conc_at (by simp [List.getD, List.getElem?_eq_getElem p1])
        rw [p2]; exact hW.2.1.2 i _ g1
      · rw [p2]; exact hA _ (by have := hW.2.2.1.1; omega)
  have hmono : K.1.length ≤ (mnK K t n m).1.length := by rw [mnK_len]; omega
  have hSS : va_S A s.heap F.heap (locs ++ mgL T.heap.size n) := by
    refine ⟨by rw [f1]; have := hW.2.2.1.1; omega, fun q h1 h2 => (f3 q (Nat.lt_of_lt_of_le h1 hW.2.2.1.1)).trans (hW.2.2.1.2.1 q h1 h2), fun q hq => ?_⟩
    rcases List.mem_append.mp hq with h | h
    · exact hW.2.2.1.2.2 q h
    · obtain ⟨j, -, rfl⟩ := List.mem_map.mp h
      exact hA _ (by show s.heap.size ≤ T.heap.size; rw [hT]; exact hW.2.2.1.1)
  have hcv : ∀ v, okV K.1.length v → cv (adM ad K.1.length (1 + n) H.size) v = cv ad v := fun v hv => cv_ext (N := K.1.length) (fun k hk => by
    rcases hk with h | h
    · exact eold k h
    · exact adM_o (Or.inr (by rw [h]; omega))) hv
  have hls : lsC (adM ad K.1.length (1 + n) H.size) ls = lsC ad ls := by
    unfold lsC
    exact List.map_congr_left (fun q hq => by rw [hcv q.2 (hD.2.1 q hq)])
  have hst2 : st.map (cv (adM ad K.1.length (1 + n) H.size)) = st.map (cv ad) := List.map_congr_left (fun v hv => hcv v (hso v hv))
  have hk := k N0 ad0 p l env s m0 args below meth c0 A dC dI dA Qs hS F.heap (locs ++ mgL T.heap.size n) (adM ad K.1.length (1 + n) H.size) lsA ⟨fun i q hq => (hat i q hq).1, hD1, hSS, hW.2.2.2.1, ⟨fun a j u ha hu => ?_, by rw [mnK_len]; exact hN⟩, Nat.le_trans hW.2.2.2.2.2.1 hmono, fun k hk => ?_⟩
    ⟨by rw [hls]; exact hD.1, fun x hx => okV_mono hmono (hD.2.1 x hx), ok_cons (Or.inl (by rw [mnK_len]; omega)) (fun x hx => okV_mono hmono (hso x hx)), hcs, hss⟩
  · rw [List.map_cons, hst2] at hk
    have er : cv (adM ad K.1.length (1 + n) H.size) (vR K.1.length) = .ref T.heap.size := by
      have := adM_i (ad := ad) (N := K.1.length) (w := 1 + n) (h0 := H.size) (i := 0) (by omega)
      rw [Nat.add_zero, Nat.add_zero] at this
      show Value.ref _ = _
      rw [this, hsz]
    rw [er] at hk
    rw [Nat.add_assoc cs, show ss + n + n * m = ss + (n + n * m) by omega] at X'
    obtain ⟨t2, g1, g2⟩ := hk F rfl X'
    exact ⟨t2, step t2 g1, g2⟩
  · rw [mnK_len] at ha ⊢
    by_cases h1 : a = K.1.length
    · subst h1
      have hu : (if j < n then some (K.1.length + 1 + j) else none) = some u := by
        have : upR K.2 K.1.length (fun i => if i < n then some (K.1.length + 1 + i) else none) K.1.length j = some u := hu
        rw [upR_s] at this
        exact this
      by_cases hj : j < n
      · rw [if_pos hj] at hu; cases hu; omega
      · rw [if_neg hj] at hu; cases hu
    · have hu : K.2 a j = some u := by
        have : upR K.2 K.1.length (fun i => if i < n then some (K.1.length + 1 + i) else none) a j = some u := hu
        rw [upR_n h1] at this
        exact this
      by_cases h2 : a < K.1.length
      · have := hW.2.2.2.2.1.1 a j u h2 hu; omega
      · obtain ⟨w, rfl⟩ : ∃ w, a = K.1.length + w := ⟨a - K.1.length, by omega⟩
        rw [(hz w (by omega) j).2.2] at hu
        cases hu
  · have h1 := hW.2.2.2.2.2.1
    rw [adM_o]
    · exact hW.2.2.2.2.2.2 k hk
    · rcases hk with h | h
      · left; omega
      · right; omega
end VMna
