/-! a tick keeps the trains apart -/
theorem i_n {n : Nat} (h : n < 2 ^ 31) : (nI n).toInt = n := nI_toInt h
theorem downR_spec {h e : Int32} : ∀ n, ∃ w, w ≤ n ∧ downR h e n = nI w ∧ (w = 0 ∨ h + way (nI w) ≤ e)
  | 0 => ⟨0, Nat.le_refl 0, nI_0.symm, Or.inl rfl⟩
  | n + 1 => by
    unfold downR
    by_cases c : h + way (nI (n + 1)) ≤ e
    · rw [if_pos c]; exact ⟨n + 1, Nat.le_refl _, rfl, Or.inr c⟩
    · rw [if_neg c]
      obtain ⟨w, h1, h2, h3⟩ := downR_spec (h := h) (e := e) n
      exact ⟨w, by omega, h2, h3⟩
theorem brake_eq : ∀ s, s < 21 → (if nI s ≤ 3 then 0 else nI s - 3) = nI (s - 3) := by decide +kernel
theorem fR_J {f : TT → Nat → TT} {J : Nat → TT → Prop} {t : TT} {N : Nat} (h0 : J 0 t) (hf : ∀ u k, k < N → J k u → J (k + 1) (f u k)) : ∀ k, k ≤ N → J k (fR f t k)
  | 0, _ => h0
  | k + 1, hk => hf _ k (by omega) (fR_J h0 hf k (by omega))
section MV
variable {t : TT} {n np nb nz nt tk i : Nat} {w w' : Nat → Bool} {g g' : Nat → Nat}
theorem sp_spec (hI : Inv n np nb nz nt tk t) (hi : i < nt) (h : TrS t false i) : ∃ v, v ≤ 20 ∧ spS t i = nI v ∧ (t 21 i).toInt + wyI v ≤ (t 23 i).toInt := by
  obtain ⟨a1, a2, a3, ⟨v, v1, v2, v3⟩, a5, a6, a7⟩ := h
  have v3 : (t 21 i).toInt + bkI v ≤ (t 23 i).toInt := v3
  obtain ⟨b1, b2, b3, b4, b5⟩ := wy_bk v (by omega)
  obtain ⟨q, q1, q2⟩ := wish_rng hI hi
  have zero : (t 21 i).toInt + wyI 0 ≤ (t 23 i).toInt := by
    have : wyI 0 = 0 := rfl
    omega
  unfold spS
  by_cases e : t 33 i = 0
  · rw [if_pos e]
    by_cases d : t 27 i = -1
    · rw [if_pos d]
      by_cases f : t 29 i ≤ 0
      · rw [if_pos f, q2, cl0 (by omega)]
        obtain ⟨x, x1, x2, x3⟩ := downR_spec (h := t 21 i) (e := boundS t i) q
        refine ⟨x, by omega, x2, ?_⟩
        rcases x3 with x3 | x3
        · subst x3; exact zero
        · obtain ⟨c1, c2, c3, -⟩ := wy_bk x (by omega)
          have hb : (boundS t i).toInt ≤ (t 23 i).toInt := by
            unfold boundS
            split
            · exact Int.le_refl _
            · rw [mmin_i]; omega
          have hw := wy_dec x (by omega)
          rw [i_le, i_add (by rw [hw]; omega) (by rw [hw]; omega), hw] at x3
          omega
      · rw [if_neg f]; exact ⟨0, by omega, nI_0.symm, zero⟩
    · rw [if_neg d]; exact ⟨0, by omega, nI_0.symm, zero⟩
  · rw [if_neg e, v2, brake_eq v (by omega)]
    exact ⟨v - 3, by omega, rfl, by omega⟩
/-- only numbers of one train change, and what others ask of it stays -/
theorem SF.one {t' : TT} {nz : Nat} (H : SF t nz nt w) (hi : i < nt) (hne : ∀ k j, rt k = true → j ≠ i → t' k j = t k j) (hz : ∀ z, t' 17 z = t 17 z ∧ t' 15 z = t 15 z) (hw : ∀ j, j ≠ i → w' j = w j) (h1 : TrS t' (w' i) i) (h23 : (t' 23 i).toInt ≤ (t 23 i).toInt ∨ t' 23 i = t 23 i) (h24 : (t 24 i).toInt ≤ (t' 24 i).toInt) (hc : ∀ z, z < nz → ClS t' z i) : SF t' nz nt w' := by
  obtain ⟨g1, g2, g3⟩ := H
  have h23' : (t' 23 i).toInt ≤ (t 23 i).toInt := h23.elim id (fun e => by rw [e]; exact Int.le_refl _)
  refine ⟨fun j hj => ?_, fun j hj => ?_, fun z j hz9 hj => ?_⟩
  · by_cases e : j = i
    · subst e; exact h1
    · rw [hw j e]
      exact (g1 j hj).congr (fun k hk => hne k j hk e)
  · have k := g2 j hj
    by_cases e : j + 1 = i
    · rw [e] at k ⊢
      rw [hne 24 j rfl (by omega)]
      omega
    · rw [hne 23 (j + 1) rfl e]
      by_cases e2 : j = i
      · subst e2; omega
      · rw [hne 24 j rfl e2]; exact k
  · by_cases e : j = i
    · subst e; exact hc z hz9
    · unfold ClS
      rw [(hz z).1, (hz z).2, hne 20 j rfl e, hne 21 j rfl e, hne 23 j rfl e]
      exact g3 z j hz9 hj
theorem repU_SA {nz : Nat} (hi : i < nt) (H : SA t nz nt w g) : SA (repU t i) nz nt w g := by
  unfold repU
  split
  · obtain ⟨h1, h2, h3⟩ := H
    have ne : ∀ k j, k ≠ 24 ∨ j ≠ i → up2 t 24 i (t 20 i) k j = t k j := fun k j h => up2_ne fun z => by omega
    obtain ⟨a1, a2, a3, a4, a5, a6, a7⟩ := h1.1 i hi
    refine ⟨h1.one hi (fun k j _ h => ne k j (Or.inr h)) (fun z => ⟨ne _ _ (Or.inl (by omega)), ne _ _ (Or.inl (by omega))⟩) (fun _ _ => rfl) ?_ (Or.inr (ne _ _ (Or.inl (by omega)))) ?_ (fun z hz => ?_), fun z hz => ?_, fun j hj => ?_⟩
    · unfold TrS
      rw [ne 20 _ (Or.inl (by omega)), ne 19 _ (Or.inl (by omega)), ne 21 _ (Or.inl (by omega)), ne 22 _ (Or.inl (by omega)), ne 23 _ (Or.inl (by omega)), up2_same]
      exact ⟨a1, a2, a3, a4, a5, a1, Int.le_refl _⟩
    · rw [up2_same]; exact a7
    · unfold ClS
      rw [ne 17 _ (Or.inl (by omega)), ne 15 _ (Or.inl (by omega)), ne 20 _ (Or.inl (by omega)), ne 21 _ (Or.inl (by omega)), ne 23 _ (Or.inl (by omega))]
      exact h1.2.2 z i hz hi
    · rw [ne 15 _ (Or.inl (by omega)), ne 16 _ (Or.inl (by omega))]; exact h2 z hz
    · rw [ne 32 _ (Or.inl (by omega)), ne 19 _ (Or.inl (by omega)), sumR_congr (ne 31 _ (Or.inl (by omega))) _ (fun q _ => ne 36 _ (Or.inl (by omega)))]
      exact h3 j hj
  · exact H
theorem spU_ne {k j : Nat} (h : k ≠ 22 ∧ k ≠ 33 ∨ j ≠ i) : spU t i k j = t k j := by
  unfold spU
  rw [up2_ne (fun z => by omega), up2_ne (fun z => by omega)]
theorem spU_22 : spU t i 22 i = spS t i := by
  unfold spU
  rw [up2_ne (fun z => by omega), up2_same]
theorem spU_SA {nz : Nat} (hI : Inv n np nb nz nt tk t) (hi : i < nt) (hw : w i = false) (hw1 : w' i = true) (hw2 : ∀ j, j ≠ i → w' j = w j) (H : SA t nz nt w g) : SA (spU t i) nz nt w' g := by
  obtain ⟨h1, h2, h3⟩ := H
  have hT := h1.1 i hi
  rw [hw] at hT
  obtain ⟨v, v1, v2, v3⟩ := sp_spec hI hi hT
  obtain ⟨a1, a2, a3, a4, a5, a6, a7⟩ := hT
  refine ⟨h1.one hi (fun k j _ h => spU_ne (Or.inr h)) (fun z => ⟨spU_ne (Or.inl (by omega)), spU_ne (Or.inl (by omega))⟩) hw2 ?_ (Or.inr (spU_ne (Or.inl (by omega)))) (by rw [spU_ne (Or.inl (by omega))]; exact Int.le_refl _) (fun z hz => ?_), fun z hz => ?_, fun j hj => ?_⟩
  · unfold TrS
    rw [hw1, spU_ne (k := 20) (Or.inl (by omega)), spU_ne (k := 19) (Or.inl (by omega)), spU_ne (k := 21) (Or.inl (by omega)), spU_22, spU_ne (k := 23) (Or.inl (by omega)), spU_ne (k := 24) (Or.inl (by omega))]
    exact ⟨a1, a2, a3, ⟨v, v1, v2, v3⟩, a5, a6, a7⟩
  · unfold ClS
    rw [spU_ne (k := 17) (Or.inl (by omega)), spU_ne (k := 15) (Or.inl (by omega)), spU_ne (k := 20) (Or.inl (by omega)), spU_ne (k := 21) (Or.inl (by omega)), spU_ne (k := 23) (Or.inl (by omega))]
    exact h1.2.2 z i hz hi
  · rw [spU_ne (k := 15) (Or.inl (by omega)), spU_ne (k := 16) (Or.inl (by omega))]; exact h2 z hz
  · rw [spU_ne (k := 32) (Or.inl (by omega)), spU_ne (k := 19) (Or.inl (by omega)), sumR_congr (spU_ne (k := 31) (Or.inl (by omega))) _ (fun q _ => spU_ne (k := 36) (Or.inl (by omega)))]
    exact h3 j hj
theorem goV_ne {k j : Nat} (h : k ≠ 35 ∧ k ≠ 36 ∧ (j ≠ i ∨ k ≠ 19 ∧ k ≠ 20 ∧ k ≠ 21)) : goV t tk i k j = t k j := by
  unfold goV
  rw [up2_ne (fun z => by omega), up2_ne (fun z => by omega), up2_ne (fun z => by omega), up2_ne (fun z => by omega), up2_ne (fun z => by omega)]
theorem goV_36 {j : Nat} : goV t tk i 36 j = if j = 1000 * i + tk then farS t i else t 36 j := by
  unfold goV
  rw [up2_ne (fun z => by omega), up2_ne (fun z => by omega), up2_ne (fun z => by omega)]
  by_cases e : j = 1000 * i + tk
  · rw [if_pos e, e, up2_same]
  · rw [if_neg e, up2_ne (fun z => e z.2), up2_ne (fun z => by omega)]
theorem goV_19 : goV t tk i 19 i = t 19 i + farS t i := by
  unfold goV
  rw [up2_ne (fun z => by omega), up2_ne (fun z => by omega), up2_same]
theorem goV_20 : goV t tk i 20 i = t 20 i + (if t 22 i = 0 then 0 else t 22 i - 1) := by
  unfold goV
  rw [up2_ne (fun z => by omega), up2_same]
theorem goV_21 : goV t tk i 21 i = t 21 i + (if t 22 i = 0 then 0 else t 22 i + 1) := by
  unfold goV
  rw [up2_same]
theorem setU_ne {k j : Nat} (h : j ≠ i ∨ k ≠ 20 ∧ k ≠ 21) : setU t i k j = t k j := by
  unfold setU
  rw [up2_ne (fun z => by omega), up2_ne (fun z => by omega)]
theorem setU_20 : setU t i 20 i = t 19 i := by
  unfold setU
  rw [up2_ne (fun z => by omega), up2_same]
theorem setU_21 : setU t i 21 i = t 19 i := by
  unfold setU
  rw [up2_same]
/-- how far a train goes -/
theorem go_num (hI : Inv n np nb nz nt tk t) (hi : i < nt) (hT : TrS t true i) : ∃ v : Nat, v ≤ 20 ∧ t 22 i = nI v ∧ ∃ f d u : Int, (t 19 i + farS t i).toInt = (t 19 i).toInt + f ∧ (t 20 i + (if t 22 i = 0 then 0 else t 22 i - 1)).toInt = (t 20 i).toInt + d ∧ (t 21 i + (if t 22 i = 0 then 0 else t 22 i + 1)).toInt = (t 21 i).toInt + u ∧ 0 ≤ d ∧ d ≤ f ∧ f ≤ u ∧ (t 21 i).toInt + u + bkI v ≤ (t 23 i).toInt := by
  obtain ⟨a1, a2, a3, ⟨v, v1, v2, v3⟩, a5, a6, a7⟩ := hT
  have v3 : (t 21 i).toInt + wyI v ≤ (t 23 i).toInt := v3
  obtain ⟨b1, b2, b3, b4, b5⟩ := wy_bk v (by omega)
  obtain ⟨-, hs, -⟩ := hI.2.2.2.1 i hi
  refine ⟨v, v1, v2, ?_⟩
  by_cases e : v = 0
  · subst e
    have e0 : t 22 i = 0 := v2
    have hf : farS t i = 0 := if_pos e0
    rw [hf, if_pos e0, if_pos e0, Int32.add_zero, Int32.add_zero, Int32.add_zero]
    exact ⟨0, 0, 0, by omega, by omega, by omega, by omega, by omega, by omega, by omega⟩
  · have e0 : ¬ t 22 i = 0 := by rw [v2]; exact nI_ne0 (by omega) (by omega)
    have hv : (t 22 i).toInt = v := by rw [v2]; exact i_n (by omega)
    have hsl : -1 ≤ (t 25 i).toInt ∧ (t 25 i).toInt ≤ 1 := by
      rcases hs with h | h | h <;> rw [h] <;> decide +kernel
    have hf : farS t i = t 22 i + t 25 i := if_neg e0
    have hf2 : (farS t i).toInt = (v : Int) + (t 25 i).toInt := by
      rw [hf, i_add (by omega) (by omega), hv]
    have hd2 : (t 22 i - 1).toInt = (v : Int) - 1 := by
      rw [i_sub (by rw [i_1]; omega) (by rw [i_1]; omega), hv, i_1]
    have hu2 : (t 22 i + 1).toInt = (v : Int) + 1 := by
      rw [i_add (by rw [i_1]; omega) (by rw [i_1]; omega), hv, i_1]
    rw [if_neg e0, if_neg e0]
    refine ⟨(v : Int) + (t 25 i).toInt, (v : Int) - 1, (v : Int) + 1, ?_, ?_, ?_, by omega, by omega, by omega, ?_⟩
    · rw [i_add (by omega) (by omega), hf2]
    · rw [i_add (by omega) (by omega), hd2]
    · rw [i_add (by omega) (by omega), hu2]
    · have := b4 (by omega)
      omega
theorem goV_SA (hI : Inv n np nb nz nt tk t) (h1k : 1 ≤ tk) (hi : i < nt) (hw : w i = true) (hw1 : w' i = false) (hw2 : ∀ j, j ≠ i → w' j = w j) (hg : g i + 1 = tk) (hg1 : g' i = tk) (hg2 : ∀ j, j ≠ i → g' j = g j) (hg3 : ∀ j, g j ≤ tk) (H : SA t nz nt w g) : SA (goV t tk i) nz nt w' g' := by
  obtain ⟨h1, h2, h3⟩ := H
  have hT := h1.1 i hi
  rw [hw] at hT
  obtain ⟨v, v1, v2, f, d, u, f1, d1, u1, b1, b2, b3, b4⟩ := go_num hI hi hT
  obtain ⟨a1, a2, a3, a4, a5, a6, a7⟩ := hT
  have htk := hI.2.1.2
  have h5 := (fac hI).2.1
  obtain ⟨c0, -⟩ := wy_bk v (by omega)
  refine ⟨h1.one hi (fun k j hk h => goV_ne (by have := rt_le hk; omega)) (fun z => ⟨goV_ne (by omega), goV_ne (by omega)⟩) hw2 ?_ (Or.inr (goV_ne (by omega))) (by rw [goV_ne (by omega)]; exact Int.le_refl _) (fun z hz => ?_), fun z hz => ?_, fun j hj => ?_⟩
  · unfold TrS
    rw [hw1, goV_20, goV_19, goV_21, goV_ne (k := 22) (by omega), goV_ne (k := 23) (by omega), goV_ne (k := 24) (by omega), f1, d1, u1]
    refine ⟨by omega, by omega, by omega, ⟨v, v1, v2, b4⟩, a5, a6, by omega⟩
  · unfold ClS
    rw [goV_ne (k := 17) (by omega), goV_ne (k := 15) (by omega), goV_20, goV_21, goV_ne (k := 23) (by omega), d1, u1]
    intro hc
    rcases h1.2.2 z i hz hi hc with q | q
    · exact Or.inl (by omega)
    · exact Or.inr ⟨by omega, q.2⟩
  · rw [goV_ne (k := 15) (by omega), goV_ne (k := 16) (by omega)]; exact h2 z hz
  · obtain ⟨r1, r2⟩ := h3 j hj
    refine ⟨by rw [goV_ne (k := 32) (by omega)]; exact r1, ?_⟩
    by_cases e : j = i
    · subst e
      have es : ∀ u : TT, sumR u j 0 tk = sumR u j 0 (g j) + u 36 (1000 * j + (0 + 1 + g j)) := fun u => by rw [← hg]; rfl
      rw [goV_19, hg1, r2, es, goV_36, if_pos (by omega), sumR_congr (goV_ne (k := 31) (by omega)) _ (fun q hq => by rw [goV_36, if_neg (by omega)])]
    · rw [hg2 j e, goV_ne (k := 19) (by omega), r2]
      have := hg3 j
      exact (sumR_congr (goV_ne (k := 31) (by omega)) _ (fun q hq => by rw [goV_36, if_neg (by omega)])).symm
theorem setU_SA (hi : i < nt) (hw : w i = false) (H : SA t nz nt w g) : SA (setU t i) nz nt w g := by
  obtain ⟨h1, h2, h3⟩ := H
  have hT := h1.1 i hi
  rw [hw] at hT
  obtain ⟨a1, a2, a3, ⟨v, v1, v2, v3⟩, a5, a6, a7⟩ := hT
  have v3 : (t 21 i).toInt + bkI v ≤ (t 23 i).toInt := v3
  refine ⟨h1.one hi (fun k j hk h => setU_ne (by omega)) (fun z => ⟨setU_ne (by omega), setU_ne (by omega)⟩) (fun _ _ => rfl) ?_ (Or.inr (setU_ne (by omega))) (by rw [setU_ne (by omega)]; exact Int.le_refl _) (fun z hz => ?_), fun z hz => ?_, fun j hj => ?_⟩
  · unfold TrS
    rw [hw, setU_20, setU_21, setU_ne (k := 19) (by omega), setU_ne (k := 22) (by omega), setU_ne (k := 23) (by omega), setU_ne (k := 24) (by omega)]
    refine ⟨by omega, by omega, by omega, ⟨v, v1, v2, ?_⟩, a5, a6, by omega⟩
    show (t 19 i).toInt + bkI v ≤ _
    omega
  · unfold ClS
    rw [setU_ne (k := 17) (by omega), setU_ne (k := 15) (by omega), setU_20, setU_21, setU_ne (k := 23) (by omega)]
    intro hc
    rcases h1.2.2 z i hz hi hc with q | q
    · exact Or.inl (by omega)
    · exact Or.inr ⟨by omega, q.2⟩
  · rw [setU_ne (k := 15) (by omega), setU_ne (k := 16) (by omega)]; exact h2 z hz
  · rw [setU_ne (k := 32) (by omega), setU_ne (k := 19) (by omega), sumR_congr (setU_ne (k := 31) (by omega)) _ (fun q _ => setU_ne (k := 36) (by omega))]
    exact h3 j hj
theorem goU_SA (hI : Inv n np nb nz nt tk t) (h1k : 1 ≤ tk) (hi : i < nt) (hw : w i = true) (hw1 : w' i = false) (hw2 : ∀ j, j ≠ i → w' j = w j) (hg : g i + 1 = tk) (hg1 : g' i = tk) (hg2 : ∀ j, j ≠ i → g' j = g j) (hg3 : ∀ j, g j ≤ tk) (H : SA t nz nt w g) : SA (goU tk nb t i) nz nt w' g' := by
  have H1 := goV_SA hI h1k hi hw hw1 hw2 hg hg1 hg2 hg3 H
  unfold goU
  split
  · exact setU_SA hi hw1 H1
  · exact H1
theorem tick_SA (hI : Inv n np nb nz nt tk t) (hk : tk + 1 ≤ 999) (H : SA t nz nt (fun _ => false) (fun _ => tk)) : SA (tickS np nb nz nt tk t) nz nt (fun _ => false) (fun _ => tk + 1) := by
  have h5 := (fac hI).2.1
  have I0 := hI.tick hk
  have S0 : SA (up2 t 1 0 (nI (tk + 1))) nz nt (fun _ => false) (fun _ => tk) := H.up rfl
  obtain ⟨I1, S1⟩ := fR_J (f := repU) (N := nt) (J := fun _ u => Inv n np nb nz nt (tk + 1) u ∧ SA u nz nt (fun _ => false) (fun _ => tk)) ⟨I0, S0⟩ (fun u k h1 h2 => ⟨repU_inv h1 h2.1, repU_SA h1 h2.2⟩) nt (Nat.le_refl _)
  have I2 := I1.deal9 nt (Nat.le_refl _)
  have S2 := deal_SA h5 (fun i hi => S1.1.pre hi) S1.2.1 S1.2.2
  obtain ⟨I3, S3⟩ := fR_J (f := spU) (N := nt) (J := fun k u => Inv n np nb nz nt (tk + 1) u ∧ SA u nz nt (fun i => decide (i < k)) (fun _ => tk)) ⟨I2, S2.wc (fun i _ => by simp) (fun _ _ => rfl)⟩ (fun u k h1 h2 => ⟨spU_inv h2.1 h1, spU_SA h2.1 h1 (by simp) (by simp) (fun j hj => by
    have : (j < k + 1) = (j < k) := propext ⟨fun h => by omega, fun h => by omega⟩
    simp only [this]) h2.2⟩) nt (Nat.le_refl _)
  obtain ⟨I4, S4⟩ := fR_J (f := goU (tk + 1) nb) (N := nt) (J := fun k u => Inv n np nb nz nt (tk + 1) u ∧ SA u nz nt (fun i => decide (k ≤ i)) (fun i => if i < k then tk + 1 else tk)) ⟨I3, S3.wc (fun i hi => by simp [hi]) (fun _ _ => by simp)⟩ (fun u k h1 h2 => ⟨goU_inv h1 h2.1, goU_SA h2.1 (by omega) h1 (by simp) (by simp) (fun j hj => by
    have : (k + 1 ≤ j) = (k ≤ j) := propext ⟨fun h => by omega, fun h => by omega⟩
    simp only [this]) (by simp) (by simp) (fun j hj => by
    have : (j < k + 1) = (j < k) := propext ⟨fun h => by omega, fun h => by omega⟩
    simp only [this]) (fun j => by split <;> omega) h2.2⟩) nt (Nat.le_refl _)
  have S4' : SA (fR (goU (tk + 1) nb) (fR spU (dealR (fR repU (up2 t 1 0 (nI (tk + 1))) nt) nt nz nt) nt) nt) nz nt (fun _ => false) (fun _ => tk + 1) := S4.wc (fun i hi => by
    have : ¬ nt ≤ i := by omega
    simp [this]) (fun i hi => by simp [hi])
  have S5 := fR_J (f := heldU) (N := nt) (J := fun _ u => SA u nz nt (fun _ => false) (fun _ => tk + 1)) S4' (fun u k h1 h2 => SA.up rfl h2) nt (Nat.le_refl _)
  have S6 := fR_J (f := waitU) (N := np) (J := fun _ u => SA u nz nt (fun _ => false) (fun _ => tk + 1)) S5 (fun u k h1 h2 => SA.up rfl h2) np (Nat.le_refl _)
  exact fR_J (f := boardU) (N := nt) (J := fun _ u => SA u nz nt (fun _ => false) (fun _ => tk + 1)) S6 (fun u k h1 h2 => by
    unfold boardU
    split
    · exact h2
    · exact SA.up rfl (SA.up rfl h2)) nt (Nat.le_refl _)
theorem tickN_SA (hI : Inv n np nb nz nt tk t) (H : SA t nz nt (fun _ => false) (fun _ => tk)) : ∀ k, tk + k ≤ 999 → SA (tickN np nb nz nt tk t k) nz nt (fun _ => false) (fun _ => tk + k)
  | 0, _ => H
  | k + 1, hk => tick_SA (tickN_inv hI k (by omega)) (by omega) (tickN_SA hI H k (by omega))
/-- ZONES stay where they are -/
def zE (t u : TT) : Prop := ∀ z, u 15 z = t 15 z ∧ u 16 z = t 16 z
theorem tick_zE {u : TT} (h : zE t u) : zE t (tickS np nb nz nt tk u) := by
  unfold tickS
  refine fR_I (f := boardU) (I := zE t) (N := nt) ?_ (fun u k _ h z => ?_) nt (Nat.le_refl _)
  refine fR_I (f := waitU) (I := zE t) (N := np) ?_ (fun u k _ h z => h z) np (Nat.le_refl _)
  refine fR_I (f := heldU) (I := zE t) (N := nt) ?_ (fun u k _ h z => h z) nt (Nat.le_refl _)
  refine fR_I (f := goU (tk + 1) nb) (I := zE t) (N := nt) ?_ (fun u k _ h z => ?_) nt (Nat.le_refl _)
  refine fR_I (f := spU) (I := zE t) (N := nt) ?_ (fun u k _ h z => h z) nt (Nat.le_refl _)
  · intro z
    rw [dealR_ne (by omega), dealR_ne (by omega)]
    exact fR_I (f := repU) (I := zE t) (N := nt) (t := up2 u 1 0 (nI (tk + 1))) (fun z => h z) (fun u k _ h z => by unfold repU; split <;> exact h z) nt (Nat.le_refl _) z
  · unfold goU
    split <;> exact h z
  · unfold boardU
    split <;> exact h z
theorem tickN_zE : ∀ k, zE t (tickN np nb nz nt tk t k)
  | 0 => fun _ => ⟨rfl, rfl⟩
  | k + 1 => tick_zE (tickN_zE k)
end MV
