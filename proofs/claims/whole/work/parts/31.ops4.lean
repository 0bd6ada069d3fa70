/-! the calls, on both sides: depart, trainIs, platformIs, close, pass, isSafe -/
theorem nI_lit {a b : Nat} (h : (a < 2 ^ 31 && b < 2 ^ 31 && a != b) = true) : (nI a = nI b) = False := by
  simp only [Bool.and_eq_true, decide_eq_true_eq, bne_iff_ne] at h
  refine eq_false fun z => h.2 ?_
  rw [i_eq, nI_toInt h.1.1, nI_toInt h.1.2] at z
  omega
theorem dep_over {t : TT} {i p d : Nat} {v w : Int32} (h7 : t 7 p = nI d) (hd : d ≤ 600) : (if d = 0 then up2 (up2 (up2 (over t) 26 i (-1)) 7 p (nI d + 1)) 8 p v else up2 (up2 (up2 (up2 (over t) 26 i (-1)) 9 p w) 7 p (nI d + 1)) 8 p v) = over (up2 (up2 (up2 (up2 t 9 p w) 8 p v) 7 p (nI d + 1)) 26 i (-1)) := by
  have e1 : nI d + 1 = nI (d + 1) := nI_1 d
  rw [e1]
  funext k j
  by_cases hj : j = p
  · subst hj
    by_cases h0 : d = 0
    · subst h0
      have : nI (0 + 1) < 2 := by decide +kernel
      have q : nI 0 < 2 := by decide +kernel
      rw [if_pos rfl]
      by_cases k9 : k = 9
      · subst k9
        simp [over, up2, h7, this, q]
      · by_cases k26 : k = 26
        · subst k26; simp [over, up2]
        · by_cases k7 : k = 7
          · subst k7; simp [over, up2]
          · by_cases k8 : k = 8
            · subst k8; simp [over, up2]
            · simp [over, up2, k9, k26, k7, k8]
    · have q : ¬ nI (d + 1) < 2 := by
        rw [i_lt, nI_toInt (by omega), show (2 : Int32).toInt = 2 from by decide +kernel]
        omega
      rw [if_neg h0]
      by_cases k9 : k = 9
      · subst k9
        simp [over, up2, q]
      · by_cases k26 : k = 26
        · subst k26; simp [over, up2]
        · by_cases k7 : k = 7
          · subst k7; simp [over, up2]
          · by_cases k8 : k = 8
            · subst k8; simp [over, up2]
            · simp [over, up2, k9, k26, k7, k8]
  · by_cases h0 : d = 0 <;> by_cases k9 : k = 9 <;> by_cases k26 : k = 26 <;> simp [over, up2, h0, hj, k9, k26] <;> (try subst k26) <;> (try simp)
section OP4
variable {t : TT} {n np nb nz nt tk : Nat}
theorem op_depart (hI : Inv n np nb nz nt tk t) (hn : n ≤ 600) (a : Int32) : ∃ code r s', Res n np nb nz nt tk code s' ∧ ClI [IOB, ISE9] code r (over s') (fun post px => P_X4_depart (MS np nb nz nt) post px 0 a (over t)) ∧ MdI code r s' (fun post px => P_X5_depart MM post px 0 a t) := by
  obtain ⟨hT, h5, hP, h6, h1t⟩ := fac hI
  rcases num_cases a (m := nt) (by omega) with ⟨i, hi, rfl, h1, h2, h3⟩ | ⟨h1, h2⟩
  · have hv := vp0 (n := i) (N := 5) (by omega) (by omega)
    have hc := cl0 (n := i) (by omega)
    obtain ⟨-, -, hs, -, -, -, ⟨k, q1, q2⟩, -⟩ := hI.2.2.2.1 i hi
    have hs6 : t 26 i = -1 ∨ ∃ p, p < 6 ∧ t 26 i = nI p := hs.imp id (fun ⟨p, p1, p2⟩ => ⟨p, by omega, p2⟩)
    have bad : ∀ (C : P_X4_depart (MS np nb nz nt) (fun r' t' => (2 : Nat) = 0 ∧ r' = 0 ∧ t' = over (up2 t 0 0 (nI 2))) (fun E t' => (2 : Nat) ≠ 0 ∧ [IOB, ISE9][2 - 1]? = some E ∧ t' = over (up2 t 0 0 (nI 2))) 0 (nI i) (over t)) (C2 : P_X5_depart MM (fun r' t' => ((2 : Nat) = 0 → r' = 0) ∧ t' = up2 t 0 0 (nI 2)) (fun _ _ => False) 0 (nI i) t), ∃ code r s', Res n np nb nz nt tk code s' ∧ ClI [IOB, ISE9] code r (over s') (fun post px => P_X4_depart (MS np nb nz nt) post px 0 (nI i) (over t)) ∧ MdI code r s' (fun post px => P_X5_depart MM post px 0 (nI i) t) := fun C C2 => ⟨2, 0, up2 t 0 0 (nI 2), res_bad hI (by omega), C, C2⟩
    by_cases e : t 26 i = -1
    · have ha : atStopS t i = false := by unfold atStopS; rw [if_pos e]
      refine bad ?_ ?_
      · simp only [P_X4_depart, B_X4_depart_31, ms0, ov_1, ov_2, ov_3, ov_4, ov_5, ov_6, ov_7, ov_8, ov_10, ov_11, ov_12, ov_13, ov_14, ov_15, ov_16, ov_17, ov_18, ov_19, ov_20, ov_21, ov_22, ov_23, ov_24, ov_25, ov_26, ov_27, ov_28, ov_29, ov_30, ov_31, ov_32, ov_33, ov_34, ov_35, ov_36, hT]
        refine c_numY h1 h2 ?_
        simp only [MS_4, MS_8, ov_1, ov_2, ov_3, ov_4, ov_5, ov_6, ov_7, ov_8, ov_10, ov_11, ov_12, ov_13, ov_14, ov_15, ov_16, ov_17, ov_18, ov_19, ov_20, ov_21, ov_22, ov_23, ov_24, ov_25, ov_26, ov_27, ov_28, ov_29, ov_30, ov_31, ov_32, ov_33, ov_34, ov_35, ov_36, hv, hc, hi, e, if_true, true_and]
        exact ⟨by omega, rfl, over_bad⟩
      · simp only [P_X5_depart, B_X5_depart_40, B_X5_depart_45, pm_isTrain, pm_isFine, pm_isAtStop (show i < 5 by omega) hs6, b2i_0, ha, mm20, hT, h3, i10, i20, if_true, if_false]
        exact ⟨fun z => by omega, rfl⟩
    · cases hd : (atStopS t i && decide (t 27 i = -1) && decide (t 29 i = 0)) with
      | false =>
        refine bad ?_ ?_
        · simp only [P_X4_depart, B_X4_depart_31, ms0, ov_1, ov_2, ov_3, ov_4, ov_5, ov_6, ov_7, ov_8, ov_10, ov_11, ov_12, ov_13, ov_14, ov_15, ov_16, ov_17, ov_18, ov_19, ov_20, ov_21, ov_22, ov_23, ov_24, ov_25, ov_26, ov_27, ov_28, ov_29, ov_30, ov_31, ov_32, ov_33, ov_34, ov_35, ov_36, hT]
          refine c_numY h1 h2 ?_
          simp only [pc_canDepart hi hs h6, hd, b2i_0, MS_4, MS_8, ov_1, ov_2, ov_3, ov_4, ov_5, ov_6, ov_7, ov_8, ov_10, ov_11, ov_12, ov_13, ov_14, ov_15, ov_16, ov_17, ov_18, ov_19, ov_20, ov_21, ov_22, ov_23, ov_24, ov_25, ov_26, ov_27, ov_28, ov_29, ov_30, ov_31, ov_32, ov_33, ov_34, ov_35, ov_36, hv, hc, hi, e, if_true, if_false, true_and]
          exact ⟨by omega, rfl, over_bad⟩
        · simp only [P_X5_depart, B_X5_depart_40, B_X5_depart_45, pm_isTrain, pm_isFine, pm_isAtStop (show i < 5 by omega) hs6, b2i_0, mm20, ar_4, ar_5, ar_6, ar_7, ar_8, ar_9, ar_10, ar_12, ar_13, ar_15, ar_16, ar_17, ar_19, ar_20, ar_21, ar_22, ar_23, ar_24, ar_25, ar_26, ar_27, ar_28, ar_29, ar_30, ar_31, ar_32, ar_33, ar_34, ar_35, ar_36, hT, h3, i10, i20, hv, hc, if_true, if_false, true_and]
          by_cases ha : atStopS t i = false
          · simp only [ha, if_true]
            exact ⟨fun z => by omega, rfl⟩
          · by_cases hd2 : t 27 i = -1
            · have h29 : ¬ t 29 i ≤ 0 := by
                simp at ha
                simp [ha, hd2] at hd
                rw [q2] at hd ⊢
                exact nI_nle (Nat.pos_of_ne_zero fun z => hd (by rw [z]; rfl)) (by omega)
              simp only [ha, hd2, h29, if_true, if_false]
              exact ⟨fun z => by omega, rfl⟩
            · simp only [ha, hd2, if_true, if_false]
              exact ⟨fun z => by omega, rfl⟩
      | true =>
        simp only [Bool.and_eq_true, decide_eq_true_eq] at hd
        obtain ⟨⟨ha, hd1⟩, hd2⟩ := hd
        obtain ⟨p, p1, p2⟩ := hs.resolve_left e
        have hvp := vp0 (n := p) (N := 6) (by omega) (by omega)
        have hcp := cl0 (n := p) (by omega)
        have hn1 := nI_m1 (n := p) (by omega)
        obtain ⟨⟨d, d1, d2⟩, -⟩ := hI.2.2.2.2.1 p p1
        refine ⟨0, nI p, up2 (up2 (up2 (up2 (up2 t 0 0 0) 9 p (nI tk - t 8 p)) 8 p (nI tk)) 7 p (nI d + 1)) 26 i (-1), ⟨by omega, rfl, ?_⟩, ?_, ?_⟩
        · have I1 := hI.thr (v := 0)
          have I2 := I1.plat (k := 9) (p := p) (v := nI tk - t 8 p) (by omega) p1 (I1.2.2.2.2.1 p p1)
          have I3 := I2.plat (k := 8) (p := p) (v := nI tk) (by omega) p1 (I2.2.2.2.2.1 p p1)
          have I4 := I3.plat (k := 7) (p := p) (v := nI d + 1) (by omega) p1 (by
            obtain ⟨-, w⟩ := I3.2.2.2.2.1 p p1
            exact ⟨⟨d + 1, by omega, by rw [up2_same]; exact nI_1 d⟩, w⟩)
          refine I4.train (by omega) hi ?_
          obtain ⟨w1, w2, -, w4, -, w6⟩ := I4.2.2.2.1 i hi
          unfold TrI
          simp only [up_26_1, up_26_2, up_26_3, up_26_4, up_26_5, up_26_6, up_26_7, up_26_8, up_26_10, up_26_11, up_26_12, up_26_13, up_26_14, up_26_15, up_26_16, up_26_17, up_26_18, up_26_19, up_26_20, up_26_21, up_26_22, up_26_23, up_26_24, up_26_25, up_26_27, up_26_28, up_26_29, up_26_30, up_26_31, up_26_32, up_26_33, up_26_34, up_26_35, up_26_36, up2_same]
          exact ⟨w1, w2, Or.inl trivial, w4, fun z => absurd hd1 z, w6⟩
        · simp only [ClI, P_X4_depart, B_X4_depart_31, ms0, ov_1, ov_2, ov_3, ov_4, ov_5, ov_6, ov_7, ov_8, ov_10, ov_11, ov_12, ov_13, ov_14, ov_15, ov_16, ov_17, ov_18, ov_19, ov_20, ov_21, ov_22, ov_23, ov_24, ov_25, ov_26, ov_27, ov_28, ov_29, ov_30, ov_31, ov_32, ov_33, ov_34, ov_35, ov_36, hT]
          refine c_numY h1 h2 ?_
          simp only [pc_canDepart hi hs h6, hd1, hd2, ha, b2i_0, MS_4, MS_8, ov_1, ov_2, ov_3, ov_4, ov_5, ov_6, ov_7, ov_8, ov_10, ov_11, ov_12, ov_13, ov_14, ov_15, ov_16, ov_17, ov_18, ov_19, ov_20, ov_21, ov_22, ov_23, ov_24, ov_25, ov_26, ov_27, ov_28, ov_29, ov_30, ov_31, ov_32, ov_33, ov_34, ov_35, ov_36, hv, hc, hi, p2, hn1, if_true, if_false, true_and, decide_true, Bool.and_true, Bool.true_eq_false, MS_5, hcp, p1, not_false_eq_true]
          have o40 : ∀ u : TT, over u 40 p = nI p := fun u => rfl
          have u7 : up2 (over t) 26 i (-1) 7 p = nI d := by rw [up2_ne (fun z => by omega), ov_7, d2]
          have u8 : up2 (over t) 26 i (-1) 8 p = t 8 p := by rw [up2_ne (fun z => by omega), ov_8]
          have u1 : up2 (over t) 26 i (-1) 1 0 = nI tk := by rw [up2_ne (fun z => by omega), ov_1, h1t]
          have K := dep_over (i := i) (v := nI tk) (w := nI tk - t 8 p) d2 (by omega)
          have K2 : over (up2 (up2 (up2 (up2 (up2 t 0 0 0) 9 p (nI tk - t 8 p)) 8 p (nI tk)) 7 p (nI d + 1)) 26 i (-1)) = over (up2 (up2 (up2 (up2 t 9 p (nI tk - t 8 p)) 8 p (nI tk)) 7 p (nI d + 1)) 26 i (-1)) := by
            funext k j
            by_cases k0 : k = 0 <;> simp [over, up2, k0]
          rw [K2]
          simp only [P_X1_countDeparture, B_X1_countDeparture_17, MS_5, p1, true_and, u7, u8, u1]
          by_cases d0 : d = 0
          · rw [if_pos d0] at K
            have : nI d ≤ 0 := by rw [d0]; exact Int32.le_refl 0
            simp only [this, if_true, u7, K, o40, true_and]
          · rw [if_neg d0] at K
            have : ¬ nI d ≤ 0 := nI_nle (by omega) (by omega)
            have u9 : up2 (up2 (over t) 26 i (-1)) 9 p (nI tk - t 8 p) 7 p = nI d := by rw [up2_ne (fun z => by omega), u7]
            simp only [this, if_false, u9, K, o40, true_and]
        · have k1 : ∀ k j, k ≠ 0 → up2 t 0 0 0 k j = t k j := fun k j hk => up2_ne (fun z => hk z.1)
          have e91 : ∀ w, up2 (up2 t 0 0 0) 9 p w 1 0 = nI tk := fun w => by rw [up2_ne (fun z => by omega), k1 1 0 (by omega), h1t]
          have e87 : ∀ w v, up2 (up2 (up2 t 0 0 0) 9 p w) 8 p v 7 p = nI d := fun w v => by rw [up2_ne (fun z => by omega), up2_ne (fun z => by omega), k1 7 p (by omega), d2]
          have h29 : t 29 i ≤ 0 := by rw [hd2]; exact Int32.le_refl 0
          simp only [MdI, P_X5_depart, B_X5_depart_40, B_X5_depart_45, pm_isTrain, pm_isFine, pm_isAtStop (show i < 5 by omega) hs6, b2i_0, ha, hd1, h29, mm20, ar_4, ar_5, ar_6, ar_7, ar_8, ar_9, ar_10, ar_12, ar_13, ar_15, ar_16, ar_17, ar_19, ar_20, ar_21, ar_22, ar_23, ar_24, ar_25, ar_26, ar_27, ar_28, ar_29, ar_30, ar_31, ar_32, ar_33, ar_34, ar_35, ar_36, hT, h3, i10, hv, hc, Bool.true_eq_false, if_true, if_false, true_and, k1 26 i (by omega), k1 8 p (by omega), k1 1 0 (by omega), p2, hvp, hcp, h1t, e91, e87, up2_same, d2]
          exact ⟨fun _ => trivial, trivial⟩
  · refine ⟨1, 0, up2 t 0 0 (nI 1), res_bad hI (by omega), ?_, ?_⟩
    · simp only [ClI, P_X4_depart, ms0, ov_1, ov_2, ov_3, ov_4, ov_5, ov_6, ov_7, ov_8, ov_10, ov_11, ov_12, ov_13, ov_14, ov_15, ov_16, ov_17, ov_18, ov_19, ov_20, ov_21, ov_22, ov_23, ov_24, ov_25, ov_26, ov_27, ov_28, ov_29, ov_30, ov_31, ov_32, ov_33, ov_34, ov_35, ov_36, hT]
      exact c_num h1 ⟨by omega, rfl, over_bad⟩
    · simp only [MdI, P_X5_depart, B_X5_depart_45, pm_isTrain, pm_isFine, mm20, hT, h2, i10, if_true, if_false]
      exact ⟨fun z => by omega, rfl⟩
end OP4
