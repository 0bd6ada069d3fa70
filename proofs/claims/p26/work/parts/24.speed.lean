/-! the invariant; a train's new speed -/
def TrI (t : TT) (np tk i : Nat) : Prop := (∃ s, s ≤ 20 ∧ t 22 i = nI s) ∧ (t 25 i = -1 ∨ t 25 i = 0 ∨ t 25 i = 1) ∧ (t 26 i = -1 ∨ ∃ p, p < np ∧ t 26 i = nI p) ∧ (t 27 i = -1 ∨ ∃ d, d ≤ 15 ∧ t 27 i = nI d) ∧ (t 27 i ≠ -1 → t 26 i ≠ -1) ∧ (∃ k, k ≤ 120 ∧ t 28 i = nI k) ∧ (∃ k, k ≤ 99 ∧ t 29 i = nI k) ∧ isB (t 33 i) ∧ isB (t 34 i) ∧ (t 33 i ≠ 0 → t 22 i ≠ 0) ∧ (∃ k, k ≤ tk ∧ t 32 i = nI k)
def PlI (t : TT) (n p : Nat) : Prop := (∃ d, d ≤ n ∧ t 7 p = nI d) ∧ (∃ w, w ≤ 999 ∧ t 6 p = nI w) ∧ (∃ r, r ≤ 9 ∧ t 5 p = nI r)
def Zr (t : TT) (np nb nz nt : Nat) : Prop := (∀ k i, nt ≤ i → 19 ≤ k → k ≤ 34 → t k i = 0) ∧ (∀ j, 1000 * nt ≤ j → t 35 j = 0 ∧ t 36 j = 0) ∧ (∀ k i, np ≤ i → 4 ≤ k → k ≤ 10 → t k i = 0) ∧ (∀ i, nb ≤ i → t 12 i = 0 ∧ t 13 i = 0) ∧ (∀ i, nz ≤ i → t 15 i = 0 ∧ t 16 i = 0 ∧ t 17 i = 0)
def Inv (n np nb nz nt tk : Nat) (t : TT) : Prop := Cnt t np nb nz nt ∧ (t 1 0 = nI tk ∧ tk ≤ 999) ∧ (∃ q, 1 ≤ q ∧ q ≤ 20 ∧ t 2 0 = nI q) ∧ (∀ i, i < nt → TrI t np tk i) ∧ (∀ p, p < np → PlI t n p) ∧ (∀ b, b < nb → isB (t 13 b)) ∧ (∀ z, z < nz → isB (t 17 z)) ∧ Zr t np nb nz nt
theorem TrI.congr {t t' : TT} {np tk i : Nat} (h : ∀ k, t' k i = t k i) (H : TrI t np tk i) : TrI t' np tk i := by
  unfold TrI
  simp only [h]
  exact H
/-- a number of a train that is there is told anew -/
theorem Inv.train {n np nb nz nt tk k i : Nat} {t : TT} {v : Int32} (h : Inv n np nb nz nt tk t) (hk : 19 ≤ k ∧ k ≤ 34) (hi : i < nt) (ht : TrI (up2 t k i v) np tk i) : Inv n np nb nz nt tk (up2 t k i v) := by
  obtain ⟨hc, htk, hq, hT, hP, hb, hz, z1, z2, z3, z4, z5⟩ := h
  have e : ∀ k' i', k' < 19 ∨ 34 < k' → up2 t k i v k' i' = t k' i' := fun k' i' q => up2_ne fun z => by omega
  refine ⟨?_, ?_, ?_, fun j hj => ?_, fun p hp => ?_, fun b hb9 => ?_, fun z hz9 => ?_, fun k' j hj h1 h2 => ?_, fun j hj => ?_, fun k' j hj h1 h2 => ?_, fun j hj => ?_, fun j hj => ?_⟩
  · unfold Cnt
    rw [e _ _ (by omega), e _ _ (by omega), e _ _ (by omega), e _ _ (by omega)]
    exact hc
  · rw [e _ _ (by omega)]; exact htk
  · rw [e _ _ (by omega)]; exact hq
  · by_cases q : j = i
    · subst q; exact ht
    · exact TrI.congr (fun k' => up2_ne fun z => q z.2) (hT j hj)
  · unfold PlI
    rw [e _ _ (by omega), e _ _ (by omega), e _ _ (by omega)]
    exact hP p hp
  · rw [e _ _ (by omega)]; exact hb b hb9
  · rw [e _ _ (by omega)]; exact hz z hz9
  · rw [up2_ne fun z => by omega]; exact z1 k' j hj h1 h2
  · rw [e _ _ (by omega), e _ _ (by omega)]; exact z2 j hj
  · rw [e _ _ (by omega)]; exact z3 k' j hj h1 h2
  · rw [e _ _ (by omega), e _ _ (by omega)]; exact z4 j hj
  · rw [e _ _ (by omega), e _ _ (by omega), e _ _ (by omega)]; exact z5 j hj
/-- one of a train's numbers of which nothing is asked: where it is, its LIMIT, its REPORT .. -/
theorem Inv.free {n np nb nz nt tk k i : Nat} {t : TT} {v : Int32} (h : Inv n np nb nz nt tk t) (hk : k = 19 ∨ k = 20 ∨ k = 21 ∨ k = 23 ∨ k = 24 ∨ k = 30 ∨ k = 31) (hi : i < nt) : Inv n np nb nz nt tk (up2 t k i v) := by
  refine h.train (by omega) hi ?_
  have H := h.2.2.2.1 i hi
  unfold TrI at H ⊢
  rw [up2_ne (fun z => by omega), up2_ne (fun z => by omega), up2_ne (fun z => by omega), up2_ne (fun z => by omega), up2_ne (fun z => by omega), up2_ne (fun z => by omega), up2_ne (fun z => by omega), up2_ne (fun z => by omega), up2_ne (fun z => by omega)]
  exact H
theorem Inv.deal9 {n np nb nz nt tk : Nat} {t : TT} (h : Inv n np nb nz nt tk t) : ∀ j, j ≤ nt → Inv n np nb nz nt tk (dealR t nt nz j)
  | 0, _ => h
  | j + 1, hj => by
    unfold dealR
    split
    · exact (Inv.deal9 h j (by omega)).free (by omega) (by omega)
    · exact Inv.deal9 h j (by omega)
theorem mmax_le {a b : Int32} : mmax a b = if a ≤ b then b else a := by
  unfold mmax
  by_cases h : a < b
  · rw [if_pos h, if_pos (by rw [i_lt] at h; rw [i_le]; omega)]
  · by_cases e : a ≤ b
    · rw [if_neg h, if_pos e, i_eq]
      rw [i_lt] at h
      rw [i_le] at e
      omega
    · rw [if_neg h, if_neg e]
def boundS (t : TT) (i : Nat) : Int32 := if t 26 i = -1 then t 23 i else mmin (t 23 i) (t 4 (t 26 i).toNatClampNeg + 1)
def downR (h e : Int32) : Nat → Int32
  | 0 => 0
  | n + 1 => if h + way (nI (n + 1)) ≤ e then nI (n + 1) else downR h e n
def wishS (t : TT) (i : Nat) : Int32 := mmin (t 22 i + 1) (mmax (t 2 0) (t 22 i - 1))
def spS (t : TT) (i : Nat) : Int32 := if t 33 i = 0 then (if t 27 i = -1 then (if t 29 i ≤ 0 then downR (t 21 i) (boundS t i) (wishS t i).toNatClampNeg else 0) else 0) else (if t 22 i ≤ 3 then 0 else t 22 i - 3)
def spU (t : TT) (i : Nat) : TT := up2 (up2 t 22 i (spS t i)) 33 i (if t 33 i = 0 then 0 else if spS t i ≤ 0 then 0 else 1)
theorem wish_dec : ∀ s, s < 21 → ∀ q, q < 21 → 1 ≤ q → ∃ w, w < 21 ∧ mmin (nI s + 1) (mmax (nI q) (nI s - 1)) = nI w := by decide +kernel
theorem brake_dec : ∀ s, s < 21 → ∃ w, w < 21 ∧ (if nI s ≤ 3 then 0 else nI s - 3) = nI w := by decide +kernel
theorem brake_dec2 : ∀ s, s < 21 → mmax (nI s - 3) 0 = (if nI s ≤ 3 then 0 else nI s - 3) := by decide +kernel
theorem pos_dec : ∀ s, s < 21 → (nI s ≤ 0 ∨ ¬ nI s = 0) := by decide +kernel
theorem downR_rng {h e : Int32} : ∀ n, ∃ w, w ≤ n ∧ downR h e n = nI w
  | 0 => ⟨0, Nat.le_refl 0, nI_0.symm⟩
  | n + 1 => by
    unfold downR
    split
    · exact ⟨n + 1, Nat.le_refl _, rfl⟩
    · obtain ⟨w, h1, h2⟩ := downR_rng (h := h) (e := e) n
      exact ⟨w, by omega, h2⟩
theorem wish_rng {n np nb nz nt tk i : Nat} {t : TT} (h : Inv n np nb nz nt tk t) (hi : i < nt) : ∃ w, w ≤ 20 ∧ wishS t i = nI w := by
  obtain ⟨q, q1, q2, q3⟩ := h.2.2.1
  obtain ⟨s, s1, s2⟩ := (h.2.2.2.1 i hi).1
  obtain ⟨w, w1, w2⟩ := wish_dec s (by omega) q (by omega) q1
  exact ⟨w, by omega, by unfold wishS; rw [q3, s2]; exact w2⟩
theorem spS_rng {n np nb nz nt tk i : Nat} {t : TT} (h : Inv n np nb nz nt tk t) (hi : i < nt) : ∃ w, w ≤ 20 ∧ spS t i = nI w := by
  obtain ⟨w, w1, w2⟩ := wish_rng h hi
  obtain ⟨s, s1, s2⟩ := (h.2.2.2.1 i hi).1
  unfold spS
  rw [w2, cl0 (by omega)]
  split
  · split
    · split
      · obtain ⟨w', h1, h2⟩ := downR_rng (h := t 21 i) (e := boundS t i) w
        exact ⟨w', by omega, h2⟩
      · exact ⟨0, by omega, nI_0.symm⟩
    · exact ⟨0, by omega, nI_0.symm⟩
  · obtain ⟨w', h1, h2⟩ := brake_dec s (by omega)
    rw [s2]
    exact ⟨w', by omega, h2⟩
theorem spU_inv {n np nb nz nt tk i : Nat} {t : TT} (h : Inv n np nb nz nt tk t) (hi : i < nt) : Inv n np nb nz nt tk (spU t i) := by
  obtain ⟨w, w1, w2⟩ := spS_rng h hi
  have e : spU t i = up2 (up2 t 33 i (if t 33 i = 0 then 0 else if spS t i ≤ 0 then 0 else 1)) 22 i (spS t i) := by
    funext a b
    unfold spU up2
    by_cases h1 : a = 33 ∧ b = i
    · have h2 : ¬ (a = 22 ∧ b = i) := by omega
      simp only [if_pos h1, if_neg h2]
    · by_cases h2 : a = 22 ∧ b = i
      · simp only [if_neg h1, if_pos h2]
      · simp only [if_neg h1, if_neg h2]
  have hb : isB (if t 33 i = 0 then 0 else if spS t i ≤ 0 then 0 else 1) := by
    split
    · exact isB_0
    · split
      · exact isB_0
      · exact isB_1
  have hp : (if t 33 i = 0 then 0 else if spS t i ≤ 0 then (0 : Int32) else 1) ≠ 0 → spS t i ≠ 0 := by
    rw [w2]
    intro q
    rcases pos_dec w (by omega) with z | z
    · rw [if_pos z] at q
      exact absurd (by split <;> rfl) q
    · exact z
  rw [e]
  obtain ⟨h1, h2, h3, h4, h5, h6, h7, h8, h9, h10, h11⟩ := h.2.2.2.1 i hi
  generalize (if t 33 i = 0 then 0 else if spS t i ≤ 0 then (0 : Int32) else 1) = x at hb hp ⊢
  have key : ∀ k, up2 (up2 t 33 i x) 22 i (spS t i) k i = if k = 22 then spS t i else if k = 33 then x else t k i := by
    intro k
    unfold up2
    by_cases q : k = 22
    · simp [q]
    · by_cases q2 : k = 33 <;> simp [q, q2]
  have hT : TrI (up2 (up2 t 33 i x) 22 i (spS t i)) np tk i := by
    unfold TrI
    simp only [key]
    exact ⟨⟨w, w1, w2⟩, h2, h3, h4, h5, h6, h7, hb, h9, hp, h11⟩
  obtain ⟨hc, htk, hq, hT0, hP, hbb, hz, z1, z2, z3, z4, z5⟩ := h
  have e9 : ∀ k' i', ¬ ((k' = 22 ∨ k' = 33) ∧ i' = i) → up2 (up2 t 33 i x) 22 i (spS t i) k' i' = t k' i' := fun k' i' q => by
    rw [up2_ne fun z => q ⟨Or.inl z.1, z.2⟩, up2_ne fun z => q ⟨Or.inr z.1, z.2⟩]
  refine ⟨?_, ?_, ?_, fun j hj => ?_, fun p hp => ?_, fun b hb9 => ?_, fun z hz9 => ?_, fun k' j hj h1 h2 => ?_, fun j hj => ?_, fun k' j hj h1 h2 => ?_, fun j hj => ?_, fun j hj => ?_⟩
  · unfold Cnt
    rw [e9 _ _ (by omega), e9 _ _ (by omega), e9 _ _ (by omega), e9 _ _ (by omega)]
    exact hc
  · rw [e9 _ _ (by omega)]; exact htk
  · rw [e9 _ _ (by omega)]; exact hq
  · by_cases q : j = i
    · subst q; exact hT
    · exact TrI.congr (fun k' => e9 _ _ (by omega)) (hT0 j hj)
  · unfold PlI
    rw [e9 _ _ (by omega), e9 _ _ (by omega), e9 _ _ (by omega)]
    exact hP p hp
  · rw [e9 _ _ (by omega)]; exact hbb b hb9
  · rw [e9 _ _ (by omega)]; exact hz z hz9
  · rw [e9 _ _ (by omega)]; exact z1 k' j hj h1 h2
  · rw [e9 _ _ (by omega), e9 _ _ (by omega)]; exact z2 j hj
  · rw [e9 _ _ (by omega)]; exact z3 k' j hj h1 h2
  · rw [e9 _ _ (by omega), e9 _ _ (by omega)]; exact z4 j hj
  · rw [e9 _ _ (by omega), e9 _ _ (by omega), e9 _ _ (by omega)]; exact z5 j hj
section SP
variable {px : String → TT → Prop} {t : TT} {n np nb nz nt tk : Nat}
theorem pc_greatestSpeed {post : Int32 → TT → Prop} {i : Nat} (hI : Inv n np nb nz nt tk t) (hi : i < nt) (h : post (downR (t 21 i) (boundS t i) (wishS t i).toNatClampNeg) (over t)) : P_X2_greatestSpeed (MS np nb nz nt) post px i (t 2 0) (over t) := by
  obtain ⟨w, w1, w2⟩ := wish_rng hI hi
  have h6 := hI.1.2.1
  obtain ⟨-, -, hs, -⟩ := hI.2.2.2.1 i hi
  rw [w2, cl0 (by omega)] at h
  have K : ∀ w, w ≤ 20 → post (downR (t 21 i) (boundS t i) w) (over t) → ∃ n, L_X2_greatestSpeed_51 (MS np nb nz nt) post px n i (boundS t i) (nI w) (over t) := by
    intro w
    induction w with
    | zero =>
      intro _ h
      refine ⟨1, ?_⟩
      simp only [L_X2_greatestSpeed_51, B_X2_greatestSpeed_74, nI_0, Int32.le_refl, if_true]
      exact h
    | succ w ih =>
      intro hw h
      have hp : ¬ nI (w + 1) ≤ 0 := nI_nle (by omega) (by omega)
      by_cases g : t 21 i + way (nI (w + 1)) ≤ boundS t i
      · refine ⟨1, ?_⟩
        simp only [L_X2_greatestSpeed_51, B_X2_greatestSpeed_74, MS_8, ov_1, ov_2, ov_3, ov_4, ov_5, ov_6, ov_7, ov_8, ov_10, ov_11, ov_12, ov_13, ov_14, ov_15, ov_16, ov_17, ov_18, ov_19, ov_20, ov_21, ov_22, ov_23, ov_24, ov_25, ov_26, ov_27, ov_28, ov_29, ov_30, ov_31, ov_32, ov_33, ov_34, ov_35, ov_36, hi, hp, g, downR, pc_way, if_true, if_false, true_and] at h ⊢
        exact h
      · simp only [downR, g, if_false] at h
        obtain ⟨n, hn⟩ := ih (by omega) h
        refine ⟨n + 1, ?_⟩
        simp only [L_X2_greatestSpeed_51, B_X2_greatestSpeed_74, MS_8, ov_1, ov_2, ov_3, ov_4, ov_5, ov_6, ov_7, ov_8, ov_10, ov_11, ov_12, ov_13, ov_14, ov_15, ov_16, ov_17, ov_18, ov_19, ov_20, ov_21, ov_22, ov_23, ov_24, ov_25, ov_26, ov_27, ov_28, ov_29, ov_30, ov_31, ov_32, ov_33, ov_34, ov_35, ov_36, hi, hp, g, pc_way, if_false, true_and, pk_m1]
        exact hn
  have K1 := K w w1 h
  rw [← w2] at K1
  unfold wishS boundS at K1
  simp only [P_X2_greatestSpeed, B_X2_greatestSpeed_30, MS_8, MS_5, ov_1, ov_2, ov_3, ov_4, ov_5, ov_6, ov_7, ov_8, ov_10, ov_11, ov_12, ov_13, ov_14, ov_15, ov_16, ov_17, ov_18, ov_19, ov_20, ov_21, ov_22, ov_23, ov_24, ov_25, ov_26, ov_27, ov_28, ov_29, ov_30, ov_31, ov_32, ov_33, ov_34, ov_35, ov_36, hi, true_and]
  rcases hs with hs | ⟨p, hp, hs⟩
  · simp only [hs, if_true] at K1 ⊢
    exact K1
  · have hn1 := nI_m1 (n := p) (by omega)
    have hcp := cl0 (n := p) (by omega)
    simp only [hs, hn1, hcp, hp, if_false, true_and, not_false_eq_true] at K1 ⊢
    exact K1
theorem pc_findSpeed {post : TT → Prop} {i : Nat} (hI : Inv n np nb nz nt tk t) (hi : i < nt) (h : post (over (spU t i))) : P_X2_findSpeed (MS np nb nz nt) post px i (t 2 0) (over t) := by
  obtain ⟨⟨s, s1, s2⟩, -⟩ := hI.2.2.2.1 i hi
  simp only [B_X2_findSpeed_71, B_X2_findSpeed_54, B_X2_findSpeed_34, P_X2_findSpeed, MS_8, ov_1, ov_2, ov_3, ov_4, ov_5, ov_6, ov_7, ov_8, ov_10, ov_11, ov_12, ov_13, ov_14, ov_15, ov_16, ov_17, ov_18, ov_19, ov_20, ov_21, ov_22, ov_23, ov_24, ov_25, ov_26, ov_27, ov_28, ov_29, ov_30, ov_31, ov_32, ov_33, ov_34, ov_35, ov_36, hi, true_and, pc_hasOpenDoors hi, b2i_0]
  have fin : ∀ v, t 33 i = 0 → v = spS t i → post (over (up2 t 22 i v)) := by
    intro v e hv
    unfold spU at h
    rw [if_pos e, up2_self (show (0 : Int32) = up2 t 22 i (spS t i) 33 i by rw [up2_ne (by omega), e])] at h
    rw [hv]
    exact h
  by_cases e : t 33 i = 0
  · by_cases d : t 27 i = -1
    · by_cases q : t 29 i ≤ 0
      · simp only [e, d, q, if_true, decide_true, Bool.not_true]
        refine pc_greatestSpeed hI hi ?_
        simp only [hi, true_and, over_up (show (22 != 9 && 22 != 40 && 22 != 0 && 22 != 7) = true from rfl)]
        exact fin _ e (by unfold spS; rw [if_pos e, if_pos d, if_pos q])
      · simp only [e, d, q, if_true, if_false, decide_true, Bool.not_true, over_up (show (22 != 9 && 22 != 40 && 22 != 0 && 22 != 7) = true from rfl)]
        exact fin _ e (by unfold spS; rw [if_pos e, if_pos d, if_neg q])
    · simp only [e, d, if_true, if_false, decide_false, Bool.not_false, Bool.true_eq_false, over_up (show (22 != 9 && 22 != 40 && 22 != 0 && 22 != 7) = true from rfl)]
      exact fin _ e (by unfold spS; rw [if_pos e, if_neg d])
  · have hv : mmax (t 22 i - 3) 0 = spS t i := by
      unfold spS
      rw [if_neg e, s2]
      exact brake_dec2 s (by omega)
    unfold spU at h
    rw [if_neg e] at h
    simp only [e, if_false, hv, over_up (show (22 != 9 && 22 != 40 && 22 != 0 && 22 != 7) = true from rfl), over_up (show (33 != 9 && 33 != 40 && 33 != 0 && 33 != 7) = true from rfl), up2_same, ov_22, isB_0, isB_1, true_and]
    by_cases c : spS t i ≤ 0 <;> simp only [c, if_true, if_false] at h ⊢ <;> exact h
end SP
