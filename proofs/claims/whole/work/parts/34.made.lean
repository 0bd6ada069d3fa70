/-! platform, beacon, zone, train: the reference's side -/
def platS (t : TT) (np : Nat) (a : Int32) : TT := up2 (up2 (up2 t 0 0 0) 4 np a) 3 0 (nI (np + 1))
def beaS (t : TT) (nb : Nat) (a : Int32) : TT := up2 (up2 (up2 (up2 t 0 0 0) 12 nb a) 13 nb 1) 11 0 (nI (nb + 1))
def zonS (t : TT) (nz : Nat) (a b : Int32) : TT := up2 (up2 (up2 (up2 t 0 0 0) 15 nz a) 16 nz b) 14 0 (nI (nz + 1))
def traS (t : TT) (nt tk : Nat) (a : Int32) : TT := up2 (up2 (up2 (up2 (up2 (up2 (up2 (up2 (up2 (up2 t 0 0 0) 19 nt a) 20 nt a) 21 nt a) 24 nt a) 26 nt (-1)) 27 nt (-1)) 31 nt a) 32 nt (nI tk)) 18 0 (nI (nt + 1))
section MA
variable {t : TT} {n np nb nz nt tk : Nat}
theorem made_sub {m : Nat} : nI (m + 1) - 1 = nI m := by
  have := pk_sub (a := m + 1) (b := 1) (by omega)
  rw [Nat.add_sub_cancel] at this
  exact this
theorem cnt_eq {m c : Nat} (h : m ≤ c) (hc : c < 2 ^ 31) : (nI m = nI c) = (m = c) := by
  rw [i_eq, nI_toInt (by omega), nI_toInt (by omega)]
  exact propext ⟨fun h => by omega, fun h => by omega⟩
theorem platS_ne {k i : Nat} {a : Int32} (h0 : k ≠ 0) (h1 : ¬ (k = 4 ∧ i = np)) (h2 : k ≠ 3) : platS t np a k i = t k i := by
  unfold platS
  rw [up2_ne (fun z => by omega), up2_ne (fun z => by omega), up2_ne (fun z => by omega)]
theorem platS_inv {a : Int32} (hI : Inv n np nb nz nt tk t) (h6 : np < 6) : Inv (n + 1) (np + 1) nb nz nt tk (platS t np a) := by
  obtain ⟨hc, htk, hq, hT, hP, hb, hz, z1, z2, z3, z4, z5⟩ := hI
  have e : ∀ k i, k ≠ 0 → k ≠ 3 → k ≠ 4 → platS t np a k i = t k i := fun k i q1 q2 q3 => platS_ne q1 (fun z => q3 z.1) q2
  refine ⟨?_, ?_, ?_, fun j hj => ?_, fun p hp => ?_, fun b hb9 => ?_, fun z hz9 => ?_, fun k j hj h1 h2 => ?_, fun j hj => ?_, fun k j hj h1 h2 => ?_, fun j hj => ?_, fun j hj => ?_⟩
  · unfold Cnt
    rw [e 11 _ (by omega) (by omega) (by omega), e 14 _ (by omega) (by omega) (by omega), e 18 _ (by omega) (by omega) (by omega)]
    exact ⟨rfl, by omega, hc.2.2⟩
  · rw [e 1 _ (by omega) (by omega) (by omega)]; exact htk
  · rw [e 2 _ (by omega) (by omega) (by omega)]; exact hq
  · have H := hT j hj
    unfold TrI at H ⊢
    rw [e 22 _ (by omega) (by omega) (by omega), e 25 _ (by omega) (by omega) (by omega), e 26 _ (by omega) (by omega) (by omega), e 27 _ (by omega) (by omega) (by omega), e 28 _ (by omega) (by omega) (by omega), e 29 _ (by omega) (by omega) (by omega), e 33 _ (by omega) (by omega) (by omega), e 34 _ (by omega) (by omega) (by omega), e 32 _ (by omega) (by omega) (by omega)]
    obtain ⟨q1, q2, q3, q4⟩ := H
    exact ⟨q1, q2, q3.imp id (fun ⟨p, p1, p2⟩ => ⟨p, by omega, p2⟩), q4⟩
  · unfold PlI
    rw [e 7 _ (by omega) (by omega) (by omega), e 6 _ (by omega) (by omega) (by omega), e 5 _ (by omega) (by omega) (by omega)]
    by_cases q : p < np
    · obtain ⟨⟨d, d1, d2⟩, h2, h3⟩ := hP p q
      exact ⟨⟨d, by omega, d2⟩, h2, h3⟩
    · have : p = np := by omega
      subst this
      exact ⟨⟨0, by omega, z3 7 p (Nat.le_refl p) (by omega) (by omega)⟩, ⟨0, by omega, z3 6 p (Nat.le_refl p) (by omega) (by omega)⟩, ⟨0, by omega, z3 5 p (Nat.le_refl p) (by omega) (by omega)⟩⟩
  · rw [e 13 _ (by omega) (by omega) (by omega)]; exact hb b hb9
  · rw [e 17 _ (by omega) (by omega) (by omega)]; exact hz z hz9
  · rw [e k _ (by omega) (by omega) (by omega)]; exact z1 k j hj h1 h2
  · rw [e 35 _ (by omega) (by omega) (by omega), e 36 _ (by omega) (by omega) (by omega)]; exact z2 j hj
  · rw [platS_ne (by omega) (fun z => by omega) (by omega)]; exact z3 k j (by omega) h1 h2
  · rw [e 12 _ (by omega) (by omega) (by omega), e 13 _ (by omega) (by omega) (by omega)]; exact z4 j hj
  · rw [e 15 _ (by omega) (by omega) (by omega), e 16 _ (by omega) (by omega) (by omega), e 17 _ (by omega) (by omega) (by omega)]; exact z5 j hj
theorem beaS_ne {k i : Nat} {a : Int32} (h0 : k ≠ 0) (h1 : ¬ (k = 12 ∧ i = nb)) (h3 : ¬ (k = 13 ∧ i = nb)) (h2 : k ≠ 11) : beaS t nb a k i = t k i := by
  unfold beaS
  rw [up2_ne (fun z => by omega), up2_ne (fun z => by omega), up2_ne (fun z => by omega), up2_ne (fun z => by omega)]
theorem beaS_inv {a : Int32} (hI : Inv n np nb nz nt tk t) (h6 : nb < 12) : Inv (n + 1) np (nb + 1) nz nt tk (beaS t nb a) := by
  obtain ⟨hc, htk, hq, hT, hP, hb, hz, z1, z2, z3, z4, z5⟩ := hI
  have e : ∀ k i, (k != 0 && k != 11 && k != 12 && k != 13) = true → beaS t nb a k i = t k i := fun k i q => by
    simp only [Bool.and_eq_true, bne_iff_ne] at q
    exact beaS_ne q.1.1.1 (fun z => q.1.2 z.1) (fun z => q.2 z.1) q.1.1.2
  refine ⟨?_, ?_, ?_, fun j hj => ?_, fun p hp => ?_, fun b hb9 => ?_, fun z hz9 => ?_, fun k j hj h1 h2 => ?_, fun j hj => ?_, fun k j hj h1 h2 => ?_, fun j hj => ?_, fun j hj => ?_⟩
  · unfold Cnt
    rw [e 3 _ rfl, e 14 _ rfl, e 18 _ rfl]
    exact ⟨hc.1, hc.2.1, rfl, by omega, hc.2.2.2.2⟩
  · rw [e 1 _ rfl]; exact htk
  · rw [e 2 _ rfl]; exact hq
  · have H := hT j hj
    unfold TrI at H ⊢
    rw [e 22 _ rfl, e 25 _ rfl, e 26 _ rfl, e 27 _ rfl, e 28 _ rfl, e 29 _ rfl, e 33 _ rfl, e 34 _ rfl, e 32 _ rfl]
    exact H
  · unfold PlI
    rw [e 7 _ rfl, e 6 _ rfl, e 5 _ rfl]
    obtain ⟨⟨d, d1, d2⟩, h2, h3⟩ := hP p hp
    exact ⟨⟨d, by omega, d2⟩, h2, h3⟩
  · by_cases q : b < nb
    · rw [beaS_ne (by omega) (fun z => by omega) (fun z => by omega) (by omega)]; exact hb b q
    · have : b = nb := by omega
      subst this
      have : beaS t b a 13 b = 1 := by
        unfold beaS
        rw [up2_ne (fun z => by omega), up2_same]
      rw [this]
      exact isB_1
  · rw [e 17 _ rfl]; exact hz z hz9
  · rw [e k _ (by simp only [Bool.and_eq_true, bne_iff_ne]; omega)]; exact z1 k j hj h1 h2
  · rw [e 35 _ rfl, e 36 _ rfl]; exact z2 j hj
  · rw [e k _ (by simp only [Bool.and_eq_true, bne_iff_ne]; omega)]; exact z3 k j hj h1 h2
  · rw [beaS_ne (by omega) (fun z => by omega) (fun z => by omega) (by omega), beaS_ne (by omega) (fun z => by omega) (fun z => by omega) (by omega)]; exact z4 j (by omega)
  · rw [e 15 _ rfl, e 16 _ rfl, e 17 _ rfl]; exact z5 j hj
theorem zonS_ne {k i : Nat} {a b : Int32} (h0 : k ≠ 0) (h1 : ¬ (k = 15 ∧ i = nz)) (h3 : ¬ (k = 16 ∧ i = nz)) (h2 : k ≠ 14) : zonS t nz a b k i = t k i := by
  unfold zonS
  rw [up2_ne (fun z => by omega), up2_ne (fun z => by omega), up2_ne (fun z => by omega), up2_ne (fun z => by omega)]
theorem zonS_inv {a b : Int32} (hI : Inv n np nb nz nt tk t) (h6 : nz < 4) : Inv (n + 1) np nb (nz + 1) nt tk (zonS t nz a b) := by
  obtain ⟨hc, htk, hq, hT, hP, hb, hz, z1, z2, z3, z4, z5⟩ := hI
  have e : ∀ k i, (k != 0 && k != 14 && k != 15 && k != 16) = true → zonS t nz a b k i = t k i := fun k i q => by
    simp only [Bool.and_eq_true, bne_iff_ne] at q
    exact zonS_ne q.1.1.1 (fun z => q.1.2 z.1) (fun z => q.2 z.1) q.1.1.2
  refine ⟨?_, ?_, ?_, fun j hj => ?_, fun p hp => ?_, fun b hb9 => ?_, fun z hz9 => ?_, fun k j hj h1 h2 => ?_, fun j hj => ?_, fun k j hj h1 h2 => ?_, fun j hj => ?_, fun j hj => ?_⟩
  · unfold Cnt
    rw [e 3 _ rfl, e 11 _ rfl, e 18 _ rfl]
    exact ⟨hc.1, hc.2.1, hc.2.2.1, hc.2.2.2.1, rfl, by omega, hc.2.2.2.2.2.2⟩
  · rw [e 1 _ rfl]; exact htk
  · rw [e 2 _ rfl]; exact hq
  · have H := hT j hj
    unfold TrI at H ⊢
    rw [e 22 _ rfl, e 25 _ rfl, e 26 _ rfl, e 27 _ rfl, e 28 _ rfl, e 29 _ rfl, e 33 _ rfl, e 34 _ rfl, e 32 _ rfl]
    exact H
  · unfold PlI
    rw [e 7 _ rfl, e 6 _ rfl, e 5 _ rfl]
    obtain ⟨⟨d, d1, d2⟩, h2, h3⟩ := hP p hp
    exact ⟨⟨d, by omega, d2⟩, h2, h3⟩
  · rw [e 13 _ rfl]; exact hb b hb9
  · rw [e 17 _ rfl]
    by_cases q : z < nz
    · exact hz z q
    · rw [(z5 z (by omega)).2.2]
      exact isB_0
  · rw [e k _ (by simp only [Bool.and_eq_true, bne_iff_ne]; omega)]; exact z1 k j hj h1 h2
  · rw [e 35 _ rfl, e 36 _ rfl]; exact z2 j hj
  · rw [e k _ (by simp only [Bool.and_eq_true, bne_iff_ne]; omega)]; exact z3 k j hj h1 h2
  · rw [e 12 _ rfl, e 13 _ rfl]; exact z4 j hj
  · rw [zonS_ne (by omega) (fun z => by omega) (fun z => by omega) (by omega), zonS_ne (by omega) (fun z => by omega) (fun z => by omega) (by omega), e 17 _ rfl]; exact z5 j (by omega)
theorem traS_ne {k i : Nat} {a : Int32} (h : (k != 0 && k != 18 && k != 19 && k != 20 && k != 21 && k != 24 && k != 26 && k != 27 && k != 31 && k != 32) = true ∨ (k ≠ 0 ∧ k ≠ 18 ∧ i ≠ nt)) : traS t nt tk a k i = t k i := by
  unfold traS
  rcases h with h | ⟨h1, h2, h3⟩
  · simp only [Bool.and_eq_true, bne_iff_ne] at h
    rw [up2_ne (fun z => by omega), up2_ne (fun z => by omega), up2_ne (fun z => by omega), up2_ne (fun z => by omega), up2_ne (fun z => by omega), up2_ne (fun z => by omega), up2_ne (fun z => by omega), up2_ne (fun z => by omega), up2_ne (fun z => by omega), up2_ne (fun z => by omega)]
  · rw [up2_ne (fun z => by omega), up2_ne (fun z => by omega), up2_ne (fun z => by omega), up2_ne (fun z => by omega), up2_ne (fun z => by omega), up2_ne (fun z => by omega), up2_ne (fun z => by omega), up2_ne (fun z => by omega), up2_ne (fun z => by omega), up2_ne (fun z => by omega)]
theorem traS_inv {a : Int32} (hI : Inv n np nb nz nt tk t) (h6 : nt < 5) : Inv (n + 1) np nb nz (nt + 1) tk (traS t nt tk a) := by
  obtain ⟨hc, htk, hq, hT, hP, hb, hz, z1, z2, z3, z4, z5⟩ := hI
  have e : ∀ k i, (k != 0 && k != 18 && k != 19 && k != 20 && k != 21 && k != 24 && k != 26 && k != 27 && k != 31 && k != 32) = true → traS t nt tk a k i = t k i := fun k i q => traS_ne (Or.inl q)
  have e2 : ∀ k i, k ≠ 0 → k ≠ 18 → i ≠ nt → traS t nt tk a k i = t k i := fun k i q1 q2 q3 => traS_ne (Or.inr ⟨q1, q2, q3⟩)
  refine ⟨?_, ?_, ?_, fun j hj => ?_, fun p hp => ?_, fun b hb9 => ?_, fun z hz9 => ?_, fun k j hj h1 h2 => ?_, fun j hj => ?_, fun k j hj h1 h2 => ?_, fun j hj => ?_, fun j hj => ?_⟩
  · unfold Cnt
    rw [e 3 _ rfl, e 11 _ rfl, e 14 _ rfl]
    exact ⟨hc.1, hc.2.1, hc.2.2.1, hc.2.2.2.1, hc.2.2.2.2.1, hc.2.2.2.2.2.1, rfl, by omega⟩
  · rw [e 1 _ rfl]; exact htk
  · rw [e 2 _ rfl]; exact hq
  · by_cases q : j < nt
    · have H := hT j q
      unfold TrI at H ⊢
      rw [e2 22 j (by omega) (by omega) (by omega), e2 25 j (by omega) (by omega) (by omega), e2 26 j (by omega) (by omega) (by omega), e2 27 j (by omega) (by omega) (by omega), e2 28 j (by omega) (by omega) (by omega), e2 29 j (by omega) (by omega) (by omega), e2 33 j (by omega) (by omega) (by omega), e2 34 j (by omega) (by omega) (by omega), e2 32 j (by omega) (by omega) (by omega)]
      exact H
    · have : j = nt := by omega
      subst this
      have w : ∀ k, 19 ≤ k → k ≤ 34 → t k j = 0 := fun k w1 w2 => z1 k j (Nat.le_refl j) w1 w2
      have v26 : traS t j tk a 26 j = -1 := by
        unfold traS
        rw [up2_ne (fun z => by omega), up2_ne (fun z => by omega), up2_ne (fun z => by omega), up2_ne (fun z => by omega), up2_same]
      have v27 : traS t j tk a 27 j = -1 := by
        unfold traS
        rw [up2_ne (fun z => by omega), up2_ne (fun z => by omega), up2_ne (fun z => by omega), up2_same]
      have v32 : traS t j tk a 32 j = nI tk := by
        unfold traS
        rw [up2_ne (fun z => by omega), up2_same]
      unfold TrI
      rw [e 22 _ rfl, e 25 _ rfl, v26, v27, e 28 _ rfl, e 29 _ rfl, e 33 _ rfl, e 34 _ rfl, v32, w 22 (by omega) (by omega), w 25 (by omega) (by omega), w 28 (by omega) (by omega), w 29 (by omega) (by omega), w 33 (by omega) (by omega), w 34 (by omega) (by omega)]
      exact ⟨⟨0, by omega, rfl⟩, Or.inr (Or.inl rfl), Or.inl rfl, Or.inl rfl, fun z => absurd rfl z, ⟨0, by omega, rfl⟩, ⟨0, by omega, rfl⟩, isB_0, isB_0, fun z => absurd rfl z, tk, Nat.le_refl tk, rfl⟩
  · unfold PlI
    rw [e 7 _ rfl, e 6 _ rfl, e 5 _ rfl]
    obtain ⟨⟨d, d1, d2⟩, h2, h3⟩ := hP p hp
    exact ⟨⟨d, by omega, d2⟩, h2, h3⟩
  · rw [e 13 _ rfl]; exact hb b hb9
  · rw [e 17 _ rfl]; exact hz z hz9
  · rw [e2 k _ (by omega) (by omega) (by omega)]; exact z1 k j (by omega) h1 h2
  · rw [e 35 _ rfl, e 36 _ rfl]; exact z2 j (by omega)
  · rw [e k _ (by simp only [Bool.and_eq_true, bne_iff_ne]; omega)]; exact z3 k j hj h1 h2
  · rw [e 12 _ rfl, e 13 _ rfl]; exact z4 j hj
  · rw [e 15 _ rfl, e 16 _ rfl, e 17 _ rfl]; exact z5 j hj
theorem md_platform (hI : Inv n np nb nz nt tk t) (a : Int32) : ((a < 100 ∨ (¬ a < 100 ∧ ¬ a ≤ 5000)) ∧ MdI 1 0 (up2 t 0 0 (nI 1)) (fun post px => P_X5_platform MM post px 0 a t)) ∨ (¬ a < 100 ∧ a ≤ 5000 ∧ np = 6 ∧ MdI 2 0 (up2 t 0 0 (nI 2)) (fun post px => P_X5_platform MM post px 0 a t)) ∨ (¬ a < 100 ∧ a ≤ 5000 ∧ np < 6 ∧ MdI 0 (nI np) (platS t np a) (fun post px => P_X5_platform MM post px 0 a t)) := by
  have hP := (fac hI).2.2.1
  have h6 := (fac hI).2.2.2.1
  have c6 : (nI np = 6) = (np = 6) := cnt_eq (c := 6) h6 (by omega)
  rcases rng_cases a 100 5000 with ⟨g1, g2, g3⟩ | ⟨g1, g2⟩
  · by_cases e : np = 6
    · refine Or.inr (Or.inl ⟨g1, g2, e, ?_⟩)
      simp only [MdI, B_X5_platform_31, P_X5_platform, pm_in, pm_isFine, mm20, hP, g3, c6, e, i10, i20, if_true, if_false]
      exact ⟨fun z => by omega, rfl⟩
    · refine Or.inr (Or.inr ⟨g1, g2, by omega, ?_⟩)
      have hv := vp0 (n := np) (N := 6) (by omega) (by omega)
      have hc := cl0 (n := np) (by omega)
      have k3 : up2 t 0 0 0 3 0 = nI np := by rw [up2_ne (fun z => by omega)]; exact hP
      simp only [MdI, B_X5_platform_31, P_X5_platform, pm_in, pm_isFine, mm20, ar_4, ar_5, ar_6, ar_7, ar_8, ar_9, ar_10, ar_12, ar_13, ar_15, ar_16, ar_17, ar_19, ar_20, ar_21, ar_22, ar_23, ar_24, ar_25, ar_26, ar_27, ar_28, ar_29, ar_30, ar_31, ar_32, ar_33, ar_34, ar_35, ar_36, hP, g3, c6, e, i10, if_true, if_false, true_and, k3, hv, hc, up2_ne (show ¬ (3 = 4 ∧ 0 = np) by omega), nI_1, up2_same, made_sub]
      exact ⟨fun _ => trivial, rfl⟩
  · refine Or.inl ⟨g1, ?_⟩
    simp only [MdI, B_X5_platform_31, P_X5_platform, pm_in, pm_isFine, mm20, g2, i10, if_true, if_false]
    exact ⟨fun z => by omega, rfl⟩
theorem md_beacon (hI : Inv n np nb nz nt tk t) (a : Int32) : ((a < 0 ∨ (¬ a < 0 ∧ ¬ a ≤ 5000)) ∧ MdI 1 0 (up2 t 0 0 (nI 1)) (fun post px => P_X5_beacon MM post px 0 a t)) ∨ (¬ a < 0 ∧ a ≤ 5000 ∧ nb = 12 ∧ MdI 2 0 (up2 t 0 0 (nI 2)) (fun post px => P_X5_beacon MM post px 0 a t)) ∨ (¬ a < 0 ∧ a ≤ 5000 ∧ nb < 12 ∧ MdI 0 (nI nb) (beaS t nb a) (fun post px => P_X5_beacon MM post px 0 a t)) := by
  have hP : t 11 0 = nI nb := hI.1.2.2.1
  have h6 : nb ≤ 12 := hI.1.2.2.2.1
  have c6 : (nI nb = 12) = (nb = 12) := cnt_eq (c := 12) h6 (by omega)
  rcases rng_cases a 0 5000 with ⟨g1, g2, g3⟩ | ⟨g1, g2⟩
  · by_cases e : nb = 12
    · refine Or.inr (Or.inl ⟨g1, g2, e, ?_⟩)
      simp only [MdI, B_X5_beacon_30, P_X5_beacon, pm_in, pm_isFine, mm20, hP, g3, c6, e, i10, i20, if_true, if_false]
      exact ⟨fun z => by omega, rfl⟩
    · refine Or.inr (Or.inr ⟨g1, g2, by omega, ?_⟩)
      have hv := vp0 (n := nb) (N := 12) (by omega) (by omega)
      have hc := cl0 (n := nb) (by omega)
      have k3 : up2 t 0 0 0 11 0 = nI nb := by rw [up2_ne (fun z => by omega)]; exact hP
      simp only [MdI, B_X5_beacon_30, P_X5_beacon, pm_in, pm_isFine, mm20, ar_4, ar_5, ar_6, ar_7, ar_8, ar_9, ar_10, ar_12, ar_13, ar_15, ar_16, ar_17, ar_19, ar_20, ar_21, ar_22, ar_23, ar_24, ar_25, ar_26, ar_27, ar_28, ar_29, ar_30, ar_31, ar_32, ar_33, ar_34, ar_35, ar_36, hP, g3, c6, e, i10, if_true, if_false, true_and, k3, hv, hc, up2_ne (show ¬ (11 = 12 ∧ 0 = nb) by omega), up2_ne (show ¬ (11 = 13 ∧ 0 = nb) by omega), vz_1, nI_1, up2_same, made_sub]
      exact ⟨fun _ => trivial, rfl⟩
  · refine Or.inl ⟨g1, ?_⟩
    simp only [MdI, B_X5_beacon_30, P_X5_beacon, pm_in, pm_isFine, mm20, g2, i10, if_true, if_false]
    exact ⟨fun z => by omega, rfl⟩
theorem md_zone (hI : Inv n np nb nz nt tk t) (a b : Int32) : ((a < 0 ∨ (¬ a < 0 ∧ ¬ a ≤ 4999)) ∧ MdI 1 0 (up2 t 0 0 (nI 1)) (fun post px => P_X5_zone MM post px 0 a b t)) ∨ (¬ a < 0 ∧ a ≤ 4999 ∧ (b < a + 1 ∨ (¬ b < a + 1 ∧ ¬ b ≤ 5000)) ∧ MdI 1 0 (up2 t 0 0 (nI 1)) (fun post px => P_X5_zone MM post px 0 a b t)) ∨ (¬ a < 0 ∧ a ≤ 4999 ∧ ¬ b < a + 1 ∧ b ≤ 5000 ∧ nz = 4 ∧ MdI 2 0 (up2 t 0 0 (nI 2)) (fun post px => P_X5_zone MM post px 0 a b t)) ∨ (¬ a < 0 ∧ a ≤ 4999 ∧ ¬ b < a + 1 ∧ b ≤ 5000 ∧ nz < 4 ∧ MdI 0 (nI nz) (zonS t nz a b) (fun post px => P_X5_zone MM post px 0 a b t)) := by
  have hP : t 14 0 = nI nz := hI.1.2.2.2.2.1
  have h6 : nz ≤ 4 := hI.1.2.2.2.2.2.1
  have c6 : (nI nz = 4) = (nz = 4) := cnt_eq (c := 4) h6 (by omega)
  rcases rng_cases a 0 4999 with ⟨g1, g2, g3⟩ | ⟨g1, g2⟩
  · rcases rng_cases b (a + 1) 5000 with ⟨f1, f2, f3⟩ | ⟨f1, f2⟩
    · by_cases e : nz = 4
      · refine Or.inr (Or.inr (Or.inl ⟨g1, g2, f1, f2, e, ?_⟩))
        simp only [MdI, B_X5_zone_52, B_X5_zone_29, B_X5_zone_28, P_X5_zone, pm_in, pm_isFine, mm20, hP, g3, f3, c6, e, i10, i20, if_true, if_false]
        exact ⟨fun z => by omega, rfl⟩
      · refine Or.inr (Or.inr (Or.inr ⟨g1, g2, f1, f2, by omega, ?_⟩))
        have hv := vp0 (n := nz) (N := 4) (by omega) (by omega)
        have hc := cl0 (n := nz) (by omega)
        have k3 : up2 t 0 0 0 14 0 = nI nz := by rw [up2_ne (fun z => by omega)]; exact hP
        simp only [MdI, B_X5_zone_52, B_X5_zone_29, B_X5_zone_28, P_X5_zone, pm_in, pm_isFine, mm20, ar_4, ar_5, ar_6, ar_7, ar_8, ar_9, ar_10, ar_12, ar_13, ar_15, ar_16, ar_17, ar_19, ar_20, ar_21, ar_22, ar_23, ar_24, ar_25, ar_26, ar_27, ar_28, ar_29, ar_30, ar_31, ar_32, ar_33, ar_34, ar_35, ar_36, hP, g3, f3, c6, e, i10, if_true, if_false, true_and, k3, hv, hc, up2_ne (show ¬ (14 = 15 ∧ 0 = nz) by omega), up2_ne (show ¬ (14 = 16 ∧ 0 = nz) by omega), nI_1, up2_same, made_sub]
        exact ⟨fun _ => trivial, rfl⟩
    · refine Or.inr (Or.inl ⟨g1, g2, f1, ?_⟩)
      simp only [MdI, B_X5_zone_52, B_X5_zone_29, B_X5_zone_28, P_X5_zone, pm_in, pm_isFine, mm20, g3, f2, i10, if_true, if_false]
      exact ⟨fun z => by omega, rfl⟩
  · refine Or.inl ⟨g1, ?_⟩
    simp only [MdI, B_X5_zone_52, B_X5_zone_29, B_X5_zone_28, P_X5_zone, pm_in, pm_isFine, mm20, g2, i10, if_true, if_false]
    exact ⟨fun z => by omega, rfl⟩
theorem pm_trainFin {px : String → TT → Prop} {post : Int32 → TT → Prop} {a : Int32} (hI : Inv n np nb nz nt tk t) (h6 : nt < 5) (h : post (nI nt) (dealR (traS t nt tk a) (nt + 1) nz (nt + 1))) : B_X5_train_38 MM post px 0 a 0 0 t := by
  have hT := (fac hI).1
  have h1t := (fac hI).2.2.2.2
  have hv := vp0 (n := nt) (N := 5) (by omega) (by omega)
  have hc := cl0 (n := nt) (by omega)
  have I1 : Inv (n + 1) np nb nz (nt + 1) tk (traS t nt tk a) := traS_inv hI h6
  have e18 : ∀ (u : TT) k (v : Int32), k ≠ 18 → up2 u k nt v 18 0 = u 18 0 := fun u k v hk => up2_ne (fun z => by omega)
  have e1 : ∀ (u : TT) k (v : Int32), k ≠ 1 → up2 u k nt v 1 0 = u 1 0 := fun u k v hk => up2_ne (fun z => by omega)
  have k18 : up2 t 0 0 0 18 0 = nI nt := by rw [up2_ne (fun z => by omega)]; exact hT
  have k1 : up2 t 0 0 0 1 0 = nI tk := by rw [up2_ne (fun z => by omega)]; exact h1t
  simp only [B_X5_train_38, pm_isFine, mm20, ar_4, ar_5, ar_6, ar_7, ar_8, ar_9, ar_10, ar_12, ar_13, ar_15, ar_16, ar_17, ar_19, ar_20, ar_21, ar_22, ar_23, ar_24, ar_25, ar_26, ar_27, ar_28, ar_29, ar_30, ar_31, ar_32, ar_33, ar_34, ar_35, ar_36, i10, if_true, if_false, true_and, e18 _ 19 _ (by omega), e18 _ 20 _ (by omega), e18 _ 21 _ (by omega), e18 _ 24 _ (by omega), e18 _ 26 _ (by omega), e18 _ 27 _ (by omega), e18 _ 31 _ (by omega), e18 _ 32 _ (by omega), e1 _ 19 _ (by omega), e1 _ 20 _ (by omega), e1 _ 21 _ (by omega), e1 _ 24 _ (by omega), e1 _ 26 _ (by omega), e1 _ 27 _ (by omega), e1 _ 31 _ (by omega), k18, k1, hv, hc, nI_1]
  refine pm_deal (t := traS t nt tk a) I1.1 ?_
  have : dealR (traS t nt tk a) (nt + 1) nz (nt + 1) 18 0 = nI (nt + 1) := by rw [dealR_ne (by decide)]; rfl
  rw [this, made_sub]
  exact h
theorem md_train (hI : Inv n np nb nz nt tk t) (a : Int32) : ((a < 100 ∨ (¬ a < 100 ∧ ¬ a ≤ 5000)) ∧ MdI 1 0 (up2 t 0 0 (nI 1)) (fun post px => P_X5_train MM post px 0 a t)) ∨ (¬ a < 100 ∧ a ≤ 5000 ∧ (nt = 5 ∨ (nt < 5 ∧ (allB (okT t a) nt && allB (okZ t a) nz) = false)) ∧ MdI 2 0 (up2 t 0 0 (nI 2)) (fun post px => P_X5_train MM post px 0 a t)) ∨ (¬ a < 100 ∧ a ≤ 5000 ∧ nt < 5 ∧ (allB (okT t a) nt && allB (okZ t a) nz) = true ∧ MdI 0 (nI nt) (dealR (traS t nt tk a) (nt + 1) nz (nt + 1)) (fun post px => P_X5_train MM post px 0 a t)) := by
  have hP := (fac hI).1
  have h6 := (fac hI).2.1
  have c6 : (nI nt = 5) = (nt = 5) := cnt_eq (c := 5) h6 (by omega)
  rcases rng_cases a 100 5000 with ⟨g1, g2, g3⟩ | ⟨g1, g2⟩
  · by_cases e : nt = 5
    · refine Or.inr (Or.inl ⟨g1, g2, Or.inl e, ?_⟩)
      simp only [MdI, P_X5_train, B_X5_train_33, B_X5_train_38, pm_in, pm_isFine, mm20, hP, g3, c6, e, i10, i20, if_true, if_false]
      exact ⟨fun z => by omega, rfl⟩
    · cases ho : (allB (okT t a) nt && allB (okZ t a) nz) with
      | false =>
        refine Or.inr (Or.inl ⟨g1, g2, Or.inr ⟨by omega, rfl⟩, ?_⟩)
        simp only [MdI, P_X5_train, pm_in, mm20, hP, g3, c6, e, i10, if_false]
        refine pm_canPut hI.1 ?_
        simp only [ho, b2i_0, if_true, B_X5_train_33, B_X5_train_38, pm_isFine, mm20, i20, if_false]
        exact ⟨fun z => by omega, rfl⟩
      | true =>
        refine Or.inr (Or.inr ⟨g1, g2, by omega, rfl, ?_⟩)
        simp only [MdI, P_X5_train, pm_in, mm20, hP, g3, c6, e, i10, if_false]
        refine pm_canPut hI.1 ?_
        simp only [ho, b2i_0, if_false, Bool.true_eq_false]
        exact pm_trainFin hI (by omega) ⟨fun _ => rfl, rfl⟩
  · refine Or.inl ⟨g1, ?_⟩
    simp only [MdI, P_X5_train, B_X5_train_38, pm_in, pm_isFine, mm20, g2, i10, if_true, if_false]
    exact ⟨fun z => by omega, rfl⟩
end MA
