/-! the calls, on both sides: stop, open, depart, record, placeAnew -/
theorem people_off {q j : Nat} (hq : q < 1000) (hj : j < 1000) : mmax (nI q - nI j) 0 = nI (q - j) ∧ nI q - (if nI j ≤ nI q then nI j else nI q) = nI (q - j) := by
  by_cases h : j ≤ q
  · rw [pk_sub h, if_pos (nI_le h (by omega)), pk_sub h]
    refine ⟨?_, rfl⟩
    unfold mmax
    rw [if_neg (nI_pos (by omega))]
  · have hn := pk_sneg (a := q) (b := j) (by omega) (by omega)
    unfold mmax
    rw [if_pos hn, if_neg (nI_ge (by omega) (by omega)), pk_sub (Nat.le_refl q), show q - j = 0 by omega, Nat.sub_self]
    exact ⟨rfl, rfl⟩
theorem doors_rng (x : Int32) : ∃ d, d ≤ 15 ∧ (15 &&& x) = nI d := by
  obtain ⟨j, j1, j2⟩ := pk_andE x (m := 15) 4 (by decide +kernel)
  exact ⟨j, by omega, by rw [Int32.and_comm]; exact j2⟩
section OP3
variable {t : TT} {n np nb nz nt tk : Nat}
theorem op_stop (hI : Inv n np nb nz nt tk t) (a b : Int32) : ∃ code s', Res n np nb nz nt tk code s' ∧ ClV [IOB, ISE9] code (over s') (fun post px => P_X4_stop (MS np nb nz nt) post px 0 a b (over t)) ∧ MdV s' (fun post px => P_X5_stop MM post px 0 a b t) := by
  obtain ⟨hT, h5, hP, h6, -⟩ := fac hI
  rcases num_cases a (m := nt) (by omega) with ⟨i, hi, rfl, h1, h2, h3⟩ | ⟨h1, h2⟩
  · have hv := vp0 (n := i) (N := 5) (by omega) (by omega)
    have hc := cl0 (n := i) (by omega)
    rcases num_cases b (m := np) (by omega) with ⟨p, hp, rfl, g1, g2, g3⟩ | ⟨g1, g2⟩
    · have hvp := vp0 (n := p) (N := 6) (by omega) (by omega)
      have hcp := cl0 (n := p) (by omega)
      have hp9 : p < 1000 := by omega
      have bad : ∀ (C : P_X4_stop (MS np nb nz nt) (fun t' => (2 : Nat) = 0 ∧ t' = over (up2 t 0 0 (nI 2))) (fun E t' => (2 : Nat) ≠ 0 ∧ [IOB, ISE9][2 - 1]? = some E ∧ t' = over (up2 t 0 0 (nI 2))) 0 (nI i) (nI p) (over t)) (C2 : P_X5_stop MM (fun t' => t' = up2 t 0 0 (nI 2)) (fun _ _ => False) 0 (nI i) (nI p) t), ∃ code s', Res n np nb nz nt tk code s' ∧ ClV [IOB, ISE9] code (over s') (fun post px => P_X4_stop (MS np nb nz nt) post px 0 (nI i) (nI p) (over t)) ∧ MdV s' (fun post px => P_X5_stop MM post px 0 (nI i) (nI p) t) := fun C C2 => ⟨2, up2 t 0 0 (nI 2), res_bad hI (by omega), C, C2⟩
      by_cases e : t 34 i = 0
      · by_cases d : t 27 i = -1
        · by_cases q : t 4 p + 1 < t 21 i + way (t 22 i)
          · refine bad ?_ ?_
            · simp only [P_X4_stop, B_X4_stop_63, B_X4_stop_64, ms0, ov_1, ov_2, ov_3, ov_4, ov_5, ov_6, ov_7, ov_8, ov_10, ov_11, ov_12, ov_13, ov_14, ov_15, ov_16, ov_17, ov_18, ov_19, ov_20, ov_21, ov_22, ov_23, ov_24, ov_25, ov_26, ov_27, ov_28, ov_29, ov_30, ov_31, ov_32, ov_33, ov_34, ov_35, ov_36, hT]
              refine c_numY h1 h2 ?_
              simp only [ov_1, ov_2, ov_3, ov_4, ov_5, ov_6, ov_7, ov_8, ov_10, ov_11, ov_12, ov_13, ov_14, ov_15, ov_16, ov_17, ov_18, ov_19, ov_20, ov_21, ov_22, ov_23, ov_24, ov_25, ov_26, ov_27, ov_28, ov_29, ov_30, ov_31, ov_32, ov_33, ov_34, ov_35, ov_36, hP]
              refine c_numY g1 g2 ?_
              simp only [keepsS, pc_askThat, pc_hasOpenDoors hi, pc_keeps hi, b2i_0, MS_1, MS_4, MS_5, MS_8, ov_1, ov_2, ov_3, ov_4, ov_5, ov_6, ov_7, ov_8, ov_10, ov_11, ov_12, ov_13, ov_14, ov_15, ov_16, ov_17, ov_18, ov_19, ov_20, ov_21, ov_22, ov_23, ov_24, ov_25, ov_26, ov_27, ov_28, ov_29, ov_30, ov_31, ov_32, ov_33, ov_34, ov_35, ov_36, hv, hc, hvp, hcp, hi, hp, e, d, q, decide_true, Bool.not_true, if_true, true_and]
              exact ⟨by omega, rfl, over_bad⟩
            · simp only [B_X5_stop_111, B_X5_stop_98, B_X5_stop_77, B_X5_stop_76, B_X5_stop_21, B_X5_stop_20, P_X5_stop, pm_isTrain, pm_isPlatform, pm_isFine, pm_wayOf, mm20, ar_4, ar_5, ar_6, ar_7, ar_8, ar_9, ar_10, ar_12, ar_13, ar_15, ar_16, ar_17, ar_19, ar_20, ar_21, ar_22, ar_23, ar_24, ar_25, ar_26, ar_27, ar_28, ar_29, ar_30, ar_31, ar_32, ar_33, ar_34, ar_35, ar_36, hT, hP, h3, g3, i10, i20, hv, hc, hvp, hcp, e, d, q, if_true, if_false, true_and]
              rfl
          · refine ⟨0, up2 (up2 t 0 0 0) 26 i (nI p), ⟨by omega, rfl, hI.thr.train (by omega) hi ?_⟩, ?_, ?_⟩
            · obtain ⟨q1, q2, -, q4, -, q6⟩ := hI.thr (v := 0).2.2.2.1 i hi
              unfold TrI
              simp only [up_26_1, up_26_2, up_26_3, up_26_4, up_26_5, up_26_6, up_26_7, up_26_8, up_26_10, up_26_11, up_26_12, up_26_13, up_26_14, up_26_15, up_26_16, up_26_17, up_26_18, up_26_19, up_26_20, up_26_21, up_26_22, up_26_23, up_26_24, up_26_25, up_26_27, up_26_28, up_26_29, up_26_30, up_26_31, up_26_32, up_26_33, up_26_34, up_26_35, up_26_36, up2_same]
              exact ⟨q1, q2, Or.inr ⟨p, hp, rfl⟩, q4, fun _ => nI_m1 (by omega), q6⟩
            · simp only [ClV, P_X4_stop, B_X4_stop_63, B_X4_stop_64, ms0, ov_1, ov_2, ov_3, ov_4, ov_5, ov_6, ov_7, ov_8, ov_10, ov_11, ov_12, ov_13, ov_14, ov_15, ov_16, ov_17, ov_18, ov_19, ov_20, ov_21, ov_22, ov_23, ov_24, ov_25, ov_26, ov_27, ov_28, ov_29, ov_30, ov_31, ov_32, ov_33, ov_34, ov_35, ov_36, hT]
              refine c_numY h1 h2 ?_
              simp only [ov_1, ov_2, ov_3, ov_4, ov_5, ov_6, ov_7, ov_8, ov_10, ov_11, ov_12, ov_13, ov_14, ov_15, ov_16, ov_17, ov_18, ov_19, ov_20, ov_21, ov_22, ov_23, ov_24, ov_25, ov_26, ov_27, ov_28, ov_29, ov_30, ov_31, ov_32, ov_33, ov_34, ov_35, ov_36, hP]
              refine c_numY g1 g2 ?_
              simp only [keepsS, pc_askThat, pc_hasOpenDoors hi, pc_keeps hi, b2i_0, MS_1, MS_4, MS_5, MS_8, ov_1, ov_2, ov_3, ov_4, ov_5, ov_6, ov_7, ov_8, ov_10, ov_11, ov_12, ov_13, ov_14, ov_15, ov_16, ov_17, ov_18, ov_19, ov_20, ov_21, ov_22, ov_23, ov_24, ov_25, ov_26, ov_27, ov_28, ov_29, ov_30, ov_31, ov_32, ov_33, ov_34, ov_35, ov_36, hv, hc, hvp, hcp, hi, hp, hp9, e, d, q, i10, decide_true, decide_false, Bool.not_true, Bool.not_false, Bool.true_eq_false, if_true, if_false, true_and, ← over_up oo26, over_thr]
            · simp only [MdV, B_X5_stop_111, B_X5_stop_98, B_X5_stop_77, B_X5_stop_76, B_X5_stop_21, B_X5_stop_20, P_X5_stop, pm_isTrain, pm_isPlatform, pm_isFine, pm_wayOf, mm20, ar_4, ar_5, ar_6, ar_7, ar_8, ar_9, ar_10, ar_12, ar_13, ar_15, ar_16, ar_17, ar_19, ar_20, ar_21, ar_22, ar_23, ar_24, ar_25, ar_26, ar_27, ar_28, ar_29, ar_30, ar_31, ar_32, ar_33, ar_34, ar_35, ar_36, hT, hP, h3, g3, i10, hv, hc, hvp, hcp, e, d, q, if_true, if_false, true_and]
        · refine bad ?_ ?_
          · simp only [P_X4_stop, B_X4_stop_63, B_X4_stop_64, ms0, ov_1, ov_2, ov_3, ov_4, ov_5, ov_6, ov_7, ov_8, ov_10, ov_11, ov_12, ov_13, ov_14, ov_15, ov_16, ov_17, ov_18, ov_19, ov_20, ov_21, ov_22, ov_23, ov_24, ov_25, ov_26, ov_27, ov_28, ov_29, ov_30, ov_31, ov_32, ov_33, ov_34, ov_35, ov_36, hT]
            refine c_numY h1 h2 ?_
            simp only [ov_1, ov_2, ov_3, ov_4, ov_5, ov_6, ov_7, ov_8, ov_10, ov_11, ov_12, ov_13, ov_14, ov_15, ov_16, ov_17, ov_18, ov_19, ov_20, ov_21, ov_22, ov_23, ov_24, ov_25, ov_26, ov_27, ov_28, ov_29, ov_30, ov_31, ov_32, ov_33, ov_34, ov_35, ov_36, hP]
            refine c_numY g1 g2 ?_
            simp only [pc_askThat, pc_hasOpenDoors hi, b2i_0, MS_1, MS_4, MS_5, MS_8, ov_1, ov_2, ov_3, ov_4, ov_5, ov_6, ov_7, ov_8, ov_10, ov_11, ov_12, ov_13, ov_14, ov_15, ov_16, ov_17, ov_18, ov_19, ov_20, ov_21, ov_22, ov_23, ov_24, ov_25, ov_26, ov_27, ov_28, ov_29, ov_30, ov_31, ov_32, ov_33, ov_34, ov_35, ov_36, hv, hc, hvp, hcp, hi, hp, e, d, decide_false, Bool.not_false, Bool.true_eq_false, if_true, if_false, true_and]
            exact ⟨by omega, rfl, over_bad⟩
          · simp only [B_X5_stop_111, B_X5_stop_98, B_X5_stop_77, B_X5_stop_76, B_X5_stop_21, B_X5_stop_20, P_X5_stop, pm_isTrain, pm_isPlatform, pm_isFine, pm_wayOf, mm20, ar_4, ar_5, ar_6, ar_7, ar_8, ar_9, ar_10, ar_12, ar_13, ar_15, ar_16, ar_17, ar_19, ar_20, ar_21, ar_22, ar_23, ar_24, ar_25, ar_26, ar_27, ar_28, ar_29, ar_30, ar_31, ar_32, ar_33, ar_34, ar_35, ar_36, hT, hP, h3, g3, i10, i20, hv, hc, hvp, hcp, e, d, if_true, if_false, true_and]
            rfl
      · refine bad ?_ ?_
        · simp only [P_X4_stop, B_X4_stop_63, B_X4_stop_64, ms0, ov_1, ov_2, ov_3, ov_4, ov_5, ov_6, ov_7, ov_8, ov_10, ov_11, ov_12, ov_13, ov_14, ov_15, ov_16, ov_17, ov_18, ov_19, ov_20, ov_21, ov_22, ov_23, ov_24, ov_25, ov_26, ov_27, ov_28, ov_29, ov_30, ov_31, ov_32, ov_33, ov_34, ov_35, ov_36, hT]
          refine c_numY h1 h2 ?_
          simp only [ov_1, ov_2, ov_3, ov_4, ov_5, ov_6, ov_7, ov_8, ov_10, ov_11, ov_12, ov_13, ov_14, ov_15, ov_16, ov_17, ov_18, ov_19, ov_20, ov_21, ov_22, ov_23, ov_24, ov_25, ov_26, ov_27, ov_28, ov_29, ov_30, ov_31, ov_32, ov_33, ov_34, ov_35, ov_36, hP]
          refine c_numY g1 g2 ?_
          simp only [pc_askThat, MS_1, MS_4, MS_5, MS_8, ov_1, ov_2, ov_3, ov_4, ov_5, ov_6, ov_7, ov_8, ov_10, ov_11, ov_12, ov_13, ov_14, ov_15, ov_16, ov_17, ov_18, ov_19, ov_20, ov_21, ov_22, ov_23, ov_24, ov_25, ov_26, ov_27, ov_28, ov_29, ov_30, ov_31, ov_32, ov_33, ov_34, ov_35, ov_36, hv, hc, hvp, hcp, hi, hp, e, if_true, if_false, true_and]
          exact ⟨by omega, rfl, over_bad⟩
        · simp only [B_X5_stop_111, B_X5_stop_98, B_X5_stop_77, B_X5_stop_76, B_X5_stop_21, B_X5_stop_20, P_X5_stop, pm_isTrain, pm_isPlatform, pm_isFine, pm_wayOf, mm20, ar_4, ar_5, ar_6, ar_7, ar_8, ar_9, ar_10, ar_12, ar_13, ar_15, ar_16, ar_17, ar_19, ar_20, ar_21, ar_22, ar_23, ar_24, ar_25, ar_26, ar_27, ar_28, ar_29, ar_30, ar_31, ar_32, ar_33, ar_34, ar_35, ar_36, hT, hP, h3, g3, i10, i20, hv, hc, hvp, hcp, e, if_true, if_false, true_and]
          rfl
    · refine ⟨1, up2 t 0 0 (nI 1), res_bad hI (by omega), ?_, ?_⟩
      · simp only [ClV, P_X4_stop, ms0, ov_1, ov_2, ov_3, ov_4, ov_5, ov_6, ov_7, ov_8, ov_10, ov_11, ov_12, ov_13, ov_14, ov_15, ov_16, ov_17, ov_18, ov_19, ov_20, ov_21, ov_22, ov_23, ov_24, ov_25, ov_26, ov_27, ov_28, ov_29, ov_30, ov_31, ov_32, ov_33, ov_34, ov_35, ov_36, hT]
        refine c_numY h1 h2 ?_
        simp only [ov_1, ov_2, ov_3, ov_4, ov_5, ov_6, ov_7, ov_8, ov_10, ov_11, ov_12, ov_13, ov_14, ov_15, ov_16, ov_17, ov_18, ov_19, ov_20, ov_21, ov_22, ov_23, ov_24, ov_25, ov_26, ov_27, ov_28, ov_29, ov_30, ov_31, ov_32, ov_33, ov_34, ov_35, ov_36, hP]
        exact c_num g1 ⟨by omega, rfl, over_bad⟩
      · simp only [MdV, B_X5_stop_111, B_X5_stop_98, B_X5_stop_77, B_X5_stop_76, B_X5_stop_21, B_X5_stop_20, P_X5_stop, pm_isTrain, pm_isPlatform, pm_isFine, mm20, ar_4, ar_5, ar_6, ar_7, ar_8, ar_9, ar_10, ar_12, ar_13, ar_15, ar_16, ar_17, ar_19, ar_20, ar_21, ar_22, ar_23, ar_24, ar_25, ar_26, ar_27, ar_28, ar_29, ar_30, ar_31, ar_32, ar_33, ar_34, ar_35, ar_36, hT, hP, h3, g2, i10, if_true, if_false]
        rfl
  · refine ⟨1, up2 t 0 0 (nI 1), res_bad hI (by omega), ?_, ?_⟩
    · simp only [ClV, P_X4_stop, ms0, ov_1, ov_2, ov_3, ov_4, ov_5, ov_6, ov_7, ov_8, ov_10, ov_11, ov_12, ov_13, ov_14, ov_15, ov_16, ov_17, ov_18, ov_19, ov_20, ov_21, ov_22, ov_23, ov_24, ov_25, ov_26, ov_27, ov_28, ov_29, ov_30, ov_31, ov_32, ov_33, ov_34, ov_35, ov_36, hT]
      exact c_num h1 ⟨by omega, rfl, over_bad⟩
    · simp only [MdV, B_X5_stop_111, B_X5_stop_98, B_X5_stop_77, B_X5_stop_76, B_X5_stop_21, B_X5_stop_20, P_X5_stop, pm_isTrain, pm_isFine, mm20, ar_4, ar_5, ar_6, ar_7, ar_8, ar_9, ar_10, ar_12, ar_13, ar_15, ar_16, ar_17, ar_19, ar_20, ar_21, ar_22, ar_23, ar_24, ar_25, ar_26, ar_27, ar_28, ar_29, ar_30, ar_31, ar_32, ar_33, ar_34, ar_35, ar_36, hT, h2, i10, if_true, if_false]
      rfl
theorem op_open (hI : Inv n np nb nz nt tk t) (a b : Int32) : ∃ code r s', Res n np nb nz nt tk code s' ∧ ClI [IOB, IAE9, ISE9] code r (over s') (fun post px => P_X4_open (MS np nb nz nt) post px 0 a b (over t)) ∧ MdI code r s' (fun post px => P_X5_open MM post px 0 a b t) := by
  obtain ⟨hT, h5, hP, h6, -⟩ := fac hI
  rcases num_cases a (m := nt) (by omega) with ⟨i, hi, rfl, h1, h2, h3⟩ | ⟨h1, h2⟩
  · have hv := vp0 (n := i) (N := 5) (by omega) (by omega)
    have hc := cl0 (n := i) (by omega)
    obtain ⟨-, -, hs, -, -, ⟨q, q1, q2⟩, -⟩ := hI.2.2.2.1 i hi
    have hs6 : t 26 i = -1 ∨ ∃ p, p < 6 ∧ t 26 i = nI p := hs.imp id (fun ⟨p, p1, p2⟩ => ⟨p, by omega, p2⟩)
    rcases rng_cases b 0 120 with ⟨g1, g2, g3⟩ | ⟨g1, g2⟩
    · obtain ⟨j, -, j2, j3⟩ := nI_btw (lo := 0) (hi := 120) g1 g2 (by omega) (by omega)
      subst j3
      have bad : ∀ (C : P_X4_open (MS np nb nz nt) (fun r' t' => (3 : Nat) = 0 ∧ r' = 0 ∧ t' = over (up2 t 0 0 (nI 3))) (fun E t' => (3 : Nat) ≠ 0 ∧ [IOB, IAE9, ISE9][3 - 1]? = some E ∧ t' = over (up2 t 0 0 (nI 3))) 0 (nI i) (nI j) (over t)) (C2 : P_X5_open MM (fun r' t' => ((3 : Nat) = 0 → r' = 0) ∧ t' = up2 t 0 0 (nI 3)) (fun _ _ => False) 0 (nI i) (nI j) t), ∃ code r s', Res n np nb nz nt tk code s' ∧ ClI [IOB, IAE9, ISE9] code r (over s') (fun post px => P_X4_open (MS np nb nz nt) post px 0 (nI i) (nI j) (over t)) ∧ MdI code r s' (fun post px => P_X5_open MM post px 0 (nI i) (nI j) t) := fun C C2 => ⟨3, 0, up2 t 0 0 (nI 3), res_bad hI (by omega), C, C2⟩
      cases ha : atStopS t i with
      | false =>
        refine bad ?_ ?_
        · simp only [B_X4_open_41, B_X4_open_40, P_X4_open, ms0, ov_1, ov_2, ov_3, ov_4, ov_5, ov_6, ov_7, ov_8, ov_10, ov_11, ov_12, ov_13, ov_14, ov_15, ov_16, ov_17, ov_18, ov_19, ov_20, ov_21, ov_22, ov_23, ov_24, ov_25, ov_26, ov_27, ov_28, ov_29, ov_30, ov_31, ov_32, ov_33, ov_34, ov_35, ov_36, hT]
          refine c_numY h1 h2 (c_rngY g1 g2 ?_)
          simp only [pc_askThat, pc_isAtStop hi hs h6, b2i_0, ha, MS_4, MS_8, hv, hc, hi, if_true, true_and]
          exact ⟨by omega, rfl, over_bad⟩
        · simp only [P_X5_open, B_X5_open_45, B_X5_open_50, pm_isTrain, pm_in, pm_isFine, pm_isAtStop (show i < 5 by omega) hs6, b2i_0, ha, mm20, hT, h3, g3, i10, i30, if_true, if_false]
          exact ⟨fun z => by omega, rfl⟩
      | true =>
        by_cases d : t 27 i = -1
        · have hq : t 26 i ≠ -1 := fun z => by unfold atStopS at ha; rw [if_pos z] at ha; cases ha
          obtain ⟨p, p1, p2⟩ := hs.resolve_left hq
          have hvp := vp0 (n := p) (N := 6) (by omega) (by omega)
          have hcp := cl0 (n := p) (by omega)
          have hn1 := nI_m1 (n := p) (by omega)
          obtain ⟨d9, e1, e2⟩ := doors_rng ((t 30 i ||| t 10 p) ^^^ (-1))
          obtain ⟨o1, o2⟩ := people_off (q := q) (j := j) (by omega) (by omega)
          refine ⟨0, nI d9, up2 (up2 (up2 t 0 0 0) 27 i (nI d9)) 28 i (nI (q - j)), ⟨by omega, rfl, ?_⟩, ?_, ?_⟩
          · have I1 : Inv (n + 1) np nb nz nt tk (up2 (up2 t 0 0 0) 27 i (nI d9)) := by
              refine hI.thr.train (by omega) hi ?_
              obtain ⟨q1, q2, q3, -, -, q6⟩ := hI.thr (v := 0).2.2.2.1 i hi
              unfold TrI
              simp only [up_27_1, up_27_2, up_27_3, up_27_4, up_27_5, up_27_6, up_27_7, up_27_8, up_27_10, up_27_11, up_27_12, up_27_13, up_27_14, up_27_15, up_27_16, up_27_17, up_27_18, up_27_19, up_27_20, up_27_21, up_27_22, up_27_23, up_27_24, up_27_25, up_27_26, up_27_28, up_27_29, up_27_30, up_27_31, up_27_32, up_27_33, up_27_34, up_27_35, up_27_36, up2_same]
              exact ⟨q1, q2, q3, Or.inr ⟨d9, e1, rfl⟩, fun _ => hq, q6⟩
            refine I1.train (by omega) hi ?_
            obtain ⟨q1, q2, q3, q4, q5, -, q7⟩ := I1.2.2.2.1 i hi
            simp only [up2_same] at q4 q5
            unfold TrI
            simp only [up_28_1, up_28_2, up_28_3, up_28_4, up_28_5, up_28_6, up_28_7, up_28_8, up_28_10, up_28_11, up_28_12, up_28_13, up_28_14, up_28_15, up_28_16, up_28_17, up_28_18, up_28_19, up_28_20, up_28_21, up_28_22, up_28_23, up_28_24, up_28_25, up_28_26, up_28_27, up_28_29, up_28_30, up_28_31, up_28_32, up_28_33, up_28_34, up_28_35, up_28_36, up2_same]
            exact ⟨q1, q2, q3, q4, q5, ⟨_, by omega, rfl⟩, q7⟩
          · simp only [ClI, B_X4_open_41, B_X4_open_40, P_X4_open, ms0, ov_1, ov_2, ov_3, ov_4, ov_5, ov_6, ov_7, ov_8, ov_10, ov_11, ov_12, ov_13, ov_14, ov_15, ov_16, ov_17, ov_18, ov_19, ov_20, ov_21, ov_22, ov_23, ov_24, ov_25, ov_26, ov_27, ov_28, ov_29, ov_30, ov_31, ov_32, ov_33, ov_34, ov_35, ov_36, hT]
            refine c_numY h1 h2 (c_rngY g1 g2 ?_)
            simp only [pc_askThat, pc_isAtStop hi hs h6, pc_hasOpenDoors hi, b2i_0, ha, d, p2, hn1, hcp, p1, B_X2_openDoors_19, P_X2_openDoors, MS_4, MS_5, MS_8, ov_1, ov_2, ov_3, ov_4, ov_5, ov_6, ov_7, ov_8, ov_10, ov_11, ov_12, ov_13, ov_14, ov_15, ov_16, ov_17, ov_18, ov_19, ov_20, ov_21, ov_22, ov_23, ov_24, ov_25, ov_26, ov_27, ov_28, ov_29, ov_30, ov_31, ov_32, ov_33, ov_34, ov_35, ov_36, hv, hc, hi, i10, e2, q2, o1, decide_true, Bool.not_true, Bool.true_eq_false, not_false_eq_true, if_true, if_false, true_and, up_27_1, up_27_2, up_27_3, up_27_4, up_27_5, up_27_6, up_27_7, up_27_8, up_27_10, up_27_11, up_27_12, up_27_13, up_27_14, up_27_15, up_27_16, up_27_17, up_27_18, up_27_19, up_27_20, up_27_21, up_27_22, up_27_23, up_27_24, up_27_25, up_27_26, up_27_28, up_27_29, up_27_30, up_27_31, up_27_32, up_27_33, up_27_34, up_27_35, up_27_36, up_28_1, up_28_2, up_28_3, up_28_4, up_28_5, up_28_6, up_28_7, up_28_8, up_28_10, up_28_11, up_28_12, up_28_13, up_28_14, up_28_15, up_28_16, up_28_17, up_28_18, up_28_19, up_28_20, up_28_21, up_28_22, up_28_23, up_28_24, up_28_25, up_28_26, up_28_27, up_28_29, up_28_30, up_28_31, up_28_32, up_28_33, up_28_34, up_28_35, up_28_36, up2_same, ← over_up oo27, ← over_up oo28, over_thr]
          · have k1 : ∀ k, k ≠ 0 → up2 t 0 0 0 k i = t k i := fun k hk => up2_ne (fun z => hk z.1)
            simp only [MdI, P_X5_open, B_X5_open_50, B_X5_open_114, pm_isTrain, pm_in, pm_isFine, pm_isAtStop (show i < 5 by omega) hs6, b2i_0, ha, d, mm20, ar_4, ar_5, ar_6, ar_7, ar_8, ar_9, ar_10, ar_12, ar_13, ar_15, ar_16, ar_17, ar_19, ar_20, ar_21, ar_22, ar_23, ar_24, ar_25, ar_26, ar_27, ar_28, ar_29, ar_30, ar_31, ar_32, ar_33, ar_34, ar_35, ar_36, hT, h3, g3, i10, hv, hc, Bool.true_eq_false, if_true, if_false, true_and, k1 30 (by omega), k1 26 (by omega), k1 28 (by omega), p2, hvp, hcp, up2_ne (show ¬ (10 = 0 ∧ p = 0) by omega), e2, up_27_1, up_27_2, up_27_3, up_27_4, up_27_5, up_27_6, up_27_7, up_27_8, up_27_10, up_27_11, up_27_12, up_27_13, up_27_14, up_27_15, up_27_16, up_27_17, up_27_18, up_27_19, up_27_20, up_27_21, up_27_22, up_27_23, up_27_24, up_27_25, up_27_26, up_27_28, up_27_29, up_27_30, up_27_31, up_27_32, up_27_33, up_27_34, up_27_35, up_27_36, up_28_1, up_28_2, up_28_3, up_28_4, up_28_5, up_28_6, up_28_7, up_28_8, up_28_10, up_28_11, up_28_12, up_28_13, up_28_14, up_28_15, up_28_16, up_28_17, up_28_18, up_28_19, up_28_20, up_28_21, up_28_22, up_28_23, up_28_24, up_28_25, up_28_26, up_28_27, up_28_29, up_28_30, up_28_31, up_28_32, up_28_33, up_28_34, up_28_35, up_28_36, up2_same, q2]
            by_cases c : nI j ≤ nI q
            · rw [if_pos c] at o2
              simp only [c, if_true, o2]
              exact ⟨fun _ => trivial, trivial⟩
            · rw [if_neg c] at o2
              simp only [c, if_false, o2]
              exact ⟨fun _ => trivial, trivial⟩
        · refine bad ?_ ?_
          · simp only [B_X4_open_41, B_X4_open_40, P_X4_open, ms0, ov_1, ov_2, ov_3, ov_4, ov_5, ov_6, ov_7, ov_8, ov_10, ov_11, ov_12, ov_13, ov_14, ov_15, ov_16, ov_17, ov_18, ov_19, ov_20, ov_21, ov_22, ov_23, ov_24, ov_25, ov_26, ov_27, ov_28, ov_29, ov_30, ov_31, ov_32, ov_33, ov_34, ov_35, ov_36, hT]
            refine c_numY h1 h2 (c_rngY g1 g2 ?_)
            simp only [pc_askThat, pc_isAtStop hi hs h6, pc_hasOpenDoors hi, b2i_0, ha, d, MS_4, MS_8, hv, hc, hi, decide_false, Bool.not_false, Bool.true_eq_false, if_true, if_false, true_and]
            exact ⟨by omega, rfl, over_bad⟩
          · simp only [P_X5_open, B_X5_open_45, B_X5_open_50, pm_isTrain, pm_in, pm_isFine, pm_isAtStop (show i < 5 by omega) hs6, b2i_0, ha, d, mm20, ar_4, ar_5, ar_6, ar_7, ar_8, ar_9, ar_10, ar_12, ar_13, ar_15, ar_16, ar_17, ar_19, ar_20, ar_21, ar_22, ar_23, ar_24, ar_25, ar_26, ar_27, ar_28, ar_29, ar_30, ar_31, ar_32, ar_33, ar_34, ar_35, ar_36, hv, hc, hT, h3, g3, i10, i30, Bool.true_eq_false, if_true, if_false, true_and]
            exact ⟨fun z => by omega, rfl⟩
    · refine ⟨2, 0, up2 t 0 0 (nI 2), res_bad hI (by omega), ?_, ?_⟩
      · simp only [ClI, B_X4_open_41, B_X4_open_40, P_X4_open, ms0, ov_1, ov_2, ov_3, ov_4, ov_5, ov_6, ov_7, ov_8, ov_10, ov_11, ov_12, ov_13, ov_14, ov_15, ov_16, ov_17, ov_18, ov_19, ov_20, ov_21, ov_22, ov_23, ov_24, ov_25, ov_26, ov_27, ov_28, ov_29, ov_30, ov_31, ov_32, ov_33, ov_34, ov_35, ov_36, hT]
        exact c_numY h1 h2 (c_rng g1 ⟨by omega, rfl, over_bad⟩)
      · simp only [MdI, P_X5_open, B_X5_open_50, pm_isTrain, pm_in, pm_isFine, mm20, hT, h3, g2, i10, i20, if_true, if_false]
        exact ⟨fun z => by omega, rfl⟩
  · refine ⟨1, 0, up2 t 0 0 (nI 1), res_bad hI (by omega), ?_, ?_⟩
    · simp only [ClI, B_X4_open_41, B_X4_open_40, P_X4_open, ms0, ov_1, ov_2, ov_3, ov_4, ov_5, ov_6, ov_7, ov_8, ov_10, ov_11, ov_12, ov_13, ov_14, ov_15, ov_16, ov_17, ov_18, ov_19, ov_20, ov_21, ov_22, ov_23, ov_24, ov_25, ov_26, ov_27, ov_28, ov_29, ov_30, ov_31, ov_32, ov_33, ov_34, ov_35, ov_36, hT]
      exact c_num h1 ⟨by omega, rfl, over_bad⟩
    · simp only [MdI, P_X5_open, B_X5_open_50, pm_isTrain, pm_in, pm_isFine, mm20, hT, h2, i10, if_true, if_false]
      exact ⟨fun z => by omega, rfl⟩
theorem op_record (hI : Inv n np nb nz nt tk t) (a b : Int32) : ∃ code r s', Res n np nb nz nt tk code s' ∧ ClI [IOB, IAE9] code r (over s') (fun post px => P_X4_record (MS np nb nz nt) post px 0 a b (over t)) ∧ MdI code r s' (fun post px => P_X5_record MM post px 0 a b t) := by
  obtain ⟨hT, h5, -, -, h1t⟩ := fac hI
  have htk := hI.2.1.2
  rcases num_cases a (m := nt) (by omega) with ⟨i, hi, rfl, h1, h2, h3⟩ | ⟨h1, h2⟩
  · have hv := vp0 (n := i) (N := 5) (by omega) (by omega)
    have hc := cl0 (n := i) (by omega)
    rcases rng_cases b 1 (nI tk) with ⟨g1, g2, g3⟩ | ⟨g1, g2⟩
    · obtain ⟨j, j1, j2, j3⟩ := nI_btw (lo := 1) (hi := tk) g1 g2 (by omega) (by omega)
      subst j3
      have hvj := vp0 (n := j) (N := 1000) (by omega) (by omega)
      have hcj := cl0 (n := j) (by omega)
      have hvk := vp0 (n := 1000 * i + j) (N := 5000) (by omega) (by omega)
      have hck := cl0 (n := 1000 * i + j) (by omega)
      have h1000 : ¬ (1000 : Int32) ≤ nI j := nI_ge (a := j) (b := 1000) (by omega) (by omega)
      refine ⟨0, if t 32 i < nI j then t 35 (1000 * i + j) else -1, up2 t 0 0 0, ⟨by omega, rfl, hI.thr⟩, ?_, ?_⟩
      · simp only [ClI, P_X4_record, ms0, ov_1, ov_2, ov_3, ov_4, ov_5, ov_6, ov_7, ov_8, ov_10, ov_11, ov_12, ov_13, ov_14, ov_15, ov_16, ov_17, ov_18, ov_19, ov_20, ov_21, ov_22, ov_23, ov_24, ov_25, ov_26, ov_27, ov_28, ov_29, ov_30, ov_31, ov_32, ov_33, ov_34, ov_35, ov_36, hT]
        refine c_numY h1 h2 ?_
        simp only [ov_1, ov_2, ov_3, ov_4, ov_5, ov_6, ov_7, ov_8, ov_10, ov_11, ov_12, ov_13, ov_14, ov_15, ov_16, ov_17, ov_18, ov_19, ov_20, ov_21, ov_22, ov_23, ov_24, ov_25, ov_26, ov_27, ov_28, ov_29, ov_30, ov_31, ov_32, ov_33, ov_34, ov_35, ov_36, h1t]
        refine c_rngY g1 g2 ?_
        by_cases e : t 32 i < nI j
        · have e2 : ¬ nI j ≤ t 32 i := by rw [i_nle]; exact not_not_intro e
          simp only [B_X2_speedIn_37, B_X2_speedIn_22, B_X2_speedIn_21, P_X2_speedIn, MS_4, MS_8, MS_9, ov_1, ov_2, ov_3, ov_4, ov_5, ov_6, ov_7, ov_8, ov_10, ov_11, ov_12, ov_13, ov_14, ov_15, ov_16, ov_17, ov_18, ov_19, ov_20, ov_21, ov_22, ov_23, ov_24, ov_25, ov_26, ov_27, ov_28, ov_29, ov_30, ov_31, ov_32, ov_33, ov_34, ov_35, ov_36, hv, hc, hi, e, e2, h1000, hvj, hcj, i10, if_true, if_false, true_and, over_thr]
        · have e2 : nI j ≤ t 32 i := by rw [i_nle]; exact e
          simp only [B_X2_speedIn_37, B_X2_speedIn_22, B_X2_speedIn_21, P_X2_speedIn, MS_4, MS_8, MS_9, ov_1, ov_2, ov_3, ov_4, ov_5, ov_6, ov_7, ov_8, ov_10, ov_11, ov_12, ov_13, ov_14, ov_15, ov_16, ov_17, ov_18, ov_19, ov_20, ov_21, ov_22, ov_23, ov_24, ov_25, ov_26, ov_27, ov_28, ov_29, ov_30, ov_31, ov_32, ov_33, ov_34, ov_35, ov_36, hv, hc, hi, e, e2, if_true, if_false, true_and, over_thr]
      · simp only [MdI, B_X5_record_64, B_X5_record_30, P_X5_record, pm_isTrain, pm_in, pm_isFine, mm20, ar_4, ar_5, ar_6, ar_7, ar_8, ar_9, ar_10, ar_12, ar_13, ar_15, ar_16, ar_17, ar_19, ar_20, ar_21, ar_22, ar_23, ar_24, ar_25, ar_26, ar_27, ar_28, ar_29, ar_30, ar_31, ar_32, ar_33, ar_34, ar_35, ar_36, hT, h1t, h3, g3, i10, hv, hc, k1000, hvk, hck, if_true, if_false, true_and, up2_ne (show ¬ (32 = 0 ∧ i = 0) by omega), up2_ne (show ¬ (35 = 0 ∧ 1000 * i + j = 0) by omega)]
        by_cases e : t 32 i < nI j
        · simp only [e, if_true]; exact ⟨fun _ => trivial, trivial⟩
        · simp only [e, if_false]; exact ⟨fun _ => trivial, trivial⟩
    · refine ⟨2, 0, up2 t 0 0 (nI 2), res_bad hI (by omega), ?_, ?_⟩
      · simp only [ClI, P_X4_record, ms0, ov_1, ov_2, ov_3, ov_4, ov_5, ov_6, ov_7, ov_8, ov_10, ov_11, ov_12, ov_13, ov_14, ov_15, ov_16, ov_17, ov_18, ov_19, ov_20, ov_21, ov_22, ov_23, ov_24, ov_25, ov_26, ov_27, ov_28, ov_29, ov_30, ov_31, ov_32, ov_33, ov_34, ov_35, ov_36, hT]
        refine c_numY h1 h2 ?_
        simp only [ov_1, ov_2, ov_3, ov_4, ov_5, ov_6, ov_7, ov_8, ov_10, ov_11, ov_12, ov_13, ov_14, ov_15, ov_16, ov_17, ov_18, ov_19, ov_20, ov_21, ov_22, ov_23, ov_24, ov_25, ov_26, ov_27, ov_28, ov_29, ov_30, ov_31, ov_32, ov_33, ov_34, ov_35, ov_36, h1t]
        exact c_rng g1 ⟨by omega, rfl, over_bad⟩
      · simp only [MdI, B_X5_record_64, B_X5_record_30, P_X5_record, pm_isTrain, pm_in, pm_isFine, mm20, ar_4, ar_5, ar_6, ar_7, ar_8, ar_9, ar_10, ar_12, ar_13, ar_15, ar_16, ar_17, ar_19, ar_20, ar_21, ar_22, ar_23, ar_24, ar_25, ar_26, ar_27, ar_28, ar_29, ar_30, ar_31, ar_32, ar_33, ar_34, ar_35, ar_36, hT, h1t, h3, g2, i10, i20, if_true, if_false]
        exact ⟨fun z => by omega, rfl⟩
  · refine ⟨1, 0, up2 t 0 0 (nI 1), res_bad hI (by omega), ?_, ?_⟩
    · simp only [ClI, P_X4_record, ms0, ov_1, ov_2, ov_3, ov_4, ov_5, ov_6, ov_7, ov_8, ov_10, ov_11, ov_12, ov_13, ov_14, ov_15, ov_16, ov_17, ov_18, ov_19, ov_20, ov_21, ov_22, ov_23, ov_24, ov_25, ov_26, ov_27, ov_28, ov_29, ov_30, ov_31, ov_32, ov_33, ov_34, ov_35, ov_36, hT]
      exact c_num h1 ⟨by omega, rfl, over_bad⟩
    · simp only [MdI, B_X5_record_64, B_X5_record_30, P_X5_record, pm_isTrain, pm_in, pm_isFine, mm20, ar_4, ar_5, ar_6, ar_7, ar_8, ar_9, ar_10, ar_12, ar_13, ar_15, ar_16, ar_17, ar_19, ar_20, ar_21, ar_22, ar_23, ar_24, ar_25, ar_26, ar_27, ar_28, ar_29, ar_30, ar_31, ar_32, ar_33, ar_34, ar_35, ar_36, hT, h2, i10, if_true, if_false]
      exact ⟨fun z => by omega, rfl⟩
def sumR (t : TT) (i p : Nat) : Nat → Int32
  | 0 => t 31 i
  | m + 1 => sumR t i p m + t 36 (1000 * i + (p + 1 + m))
theorem pc_again {px : String → TT → Prop} {post : Int32 → TT → Prop} {i p : Nat} (hi : i < nt) (h5 : nt ≤ 5) (htk : tk ≤ 999) (p1 : p ≤ tk) (h : post (sumR t i p (tk - p)) (over t)) : ∃ n9, L_X2_playAgain_12 (MS np nb nz nt) post px n9 i (nI tk) (t 31 i) (nI (p + 1)) (over t) := by
  have K : ∀ q m, m + q = tk - p → ∃ n9, L_X2_playAgain_12 (MS np nb nz nt) post px n9 i (nI tk) (sumR t i p m) (nI (p + 1 + m)) (over t) := by
    intro q
    induction q with
    | zero =>
      intro m hm
      have e : m = tk - p := by omega
      subst e
      have hlt : nI tk < nI (p + 1 + (tk - p)) := nI_lt (by omega) (by omega)
      refine ⟨1, ?_⟩
      simp only [L_X2_playAgain_12, B_X2_playAgain_41, hlt, if_true]
      exact h
    | succ q ih =>
      intro m hm
      obtain ⟨n9, hn⟩ := ih (m + 1) (by omega)
      have hlt : ¬ nI tk < nI (p + 1 + m) := nI_nlt (by omega) (by omega)
      have h1000 : ¬ (1000 : Int32) ≤ nI (p + 1 + m) := nI_ge (a := p + 1 + m) (b := 1000) (by omega) (by omega)
      have hvj := vp0 (n := p + 1 + m) (N := 1000) (by omega) (by omega)
      have hcj := cl0 (n := p + 1 + m) (by omega)
      refine ⟨n9 + 1, ?_⟩
      simp only [L_X2_playAgain_12, B_X2_playAgain_41, MS_8, MS_10, ov_1, ov_2, ov_3, ov_4, ov_5, ov_6, ov_7, ov_8, ov_10, ov_11, ov_12, ov_13, ov_14, ov_15, ov_16, ov_17, ov_18, ov_19, ov_20, ov_21, ov_22, ov_23, ov_24, ov_25, ov_26, ov_27, ov_28, ov_29, ov_30, ov_31, ov_32, ov_33, ov_34, ov_35, ov_36, hi, hlt, h1000, hvj, hcj, if_false, true_and, nI_1]
      exact hn
  exact K (tk - p) 0 (by omega)
theorem pm_again {px : String → TT → Prop} {post : Int32 → TT → Prop} {i p : Nat} (hi : i < nt) (h5 : nt ≤ 5) (htk : tk ≤ 999) (p1 : p ≤ tk) (h1t : t 1 0 = nI tk) (h : post (sumR t i p (tk - p)) t) : ∃ n9, L_X5_placeAnew_38 MM post px n9 0 (nI i) (t 31 i) (nI (p + 1)) t := by
  have hv := vp0 (n := i) (N := 5) (by omega) (by omega)
  have hc := cl0 (n := i) (by omega)
  have K : ∀ q m, m + q = tk - p → ∃ n9, L_X5_placeAnew_38 MM post px n9 0 (nI i) (sumR t i p m) (nI (p + 1 + m)) t := by
    intro q
    induction q with
    | zero =>
      intro m hm
      have e : m = tk - p := by omega
      subst e
      have hlt : nI tk < nI (p + 1 + (tk - p)) := nI_lt (by omega) (by omega)
      refine ⟨1, ?_⟩
      simp only [L_X5_placeAnew_38, mm20, h1t, hlt, if_true]
      exact h
    | succ q ih =>
      intro m hm
      obtain ⟨n9, hn⟩ := ih (m + 1) (by omega)
      have hlt : ¬ nI tk < nI (p + 1 + m) := nI_nlt (by omega) (by omega)
      have hvk := vp0 (n := 1000 * i + (p + 1 + m)) (N := 5000) (by omega) (by omega)
      have hck := cl0 (n := 1000 * i + (p + 1 + m)) (by omega)
      refine ⟨n9 + 1, ?_⟩
      simp only [L_X5_placeAnew_38, mm20, ar_4, ar_5, ar_6, ar_7, ar_8, ar_9, ar_10, ar_12, ar_13, ar_15, ar_16, ar_17, ar_19, ar_20, ar_21, ar_22, ar_23, ar_24, ar_25, ar_26, ar_27, ar_28, ar_29, ar_30, ar_31, ar_32, ar_33, ar_34, ar_35, ar_36, h1t, hlt, k1000, hvk, hck, if_false, true_and, nI_1]
      exact hn
  exact K (tk - p) 0 (by omega)
theorem sumR_thr {v : Int32} {i p : Nat} : ∀ m, sumR (up2 t 0 0 v) i p m = sumR t i p m
  | 0 => up2_ne (fun z => by omega)
  | m + 1 => by
    unfold sumR
    rw [sumR_thr m, up2_ne (fun z => by omega)]
theorem op_placeAnew (hI : Inv n np nb nz nt tk t) (a : Int32) : ∃ code r s', Res n np nb nz nt tk code s' ∧ ClI [IOB] code r (over s') (fun post px => P_X4_placeAnew (MS np nb nz nt) post px 0 a (over t)) ∧ MdI code r s' (fun post px => P_X5_placeAnew MM post px 0 a t) := by
  obtain ⟨hT, h5, -, -, h1t⟩ := fac hI
  have htk := hI.2.1.2
  rcases num_cases a (m := nt) (by omega) with ⟨i, hi, rfl, h1, h2, h3⟩ | ⟨h1, h2⟩
  · have hv := vp0 (n := i) (N := 5) (by omega) (by omega)
    have hc := cl0 (n := i) (by omega)
    obtain ⟨-, -, -, -, -, -, -, -, -, -, p, p1, p2⟩ := hI.2.2.2.1 i hi
    refine ⟨0, sumR t i p (tk - p), up2 t 0 0 0, ⟨by omega, rfl, hI.thr⟩, ?_, ?_⟩
    · simp only [ClI, P_X4_placeAnew, ms0, ov_1, ov_2, ov_3, ov_4, ov_5, ov_6, ov_7, ov_8, ov_10, ov_11, ov_12, ov_13, ov_14, ov_15, ov_16, ov_17, ov_18, ov_19, ov_20, ov_21, ov_22, ov_23, ov_24, ov_25, ov_26, ov_27, ov_28, ov_29, ov_30, ov_31, ov_32, ov_33, ov_34, ov_35, ov_36, hT]
      refine c_numY h1 h2 ?_
      simp only [B_X2_playAgain_41, P_X2_playAgain, MS_4, MS_8, ov_1, ov_2, ov_3, ov_4, ov_5, ov_6, ov_7, ov_8, ov_10, ov_11, ov_12, ov_13, ov_14, ov_15, ov_16, ov_17, ov_18, ov_19, ov_20, ov_21, ov_22, ov_23, ov_24, ov_25, ov_26, ov_27, ov_28, ov_29, ov_30, ov_31, ov_32, ov_33, ov_34, ov_35, ov_36, hv, hc, hi, h1t, p2, nI_1, true_and]
      exact pc_again hi h5 htk p1 ⟨rfl, over_thr.symm⟩
    · simp only [MdI, P_X5_placeAnew, B_X5_placeAnew_14, pm_isTrain, pm_isFine, mm20, ar_4, ar_5, ar_6, ar_7, ar_8, ar_9, ar_10, ar_12, ar_13, ar_15, ar_16, ar_17, ar_19, ar_20, ar_21, ar_22, ar_23, ar_24, ar_25, ar_26, ar_27, ar_28, ar_29, ar_30, ar_31, ar_32, ar_33, ar_34, ar_35, ar_36, hT, h3, i10, hv, hc, if_true, if_false, true_and, up2_ne (show ¬ (31 = 0 ∧ i = 0) by omega), up2_ne (show ¬ (32 = 0 ∧ i = 0) by omega), p2, nI_1]
      have k := @pm_again (up2 t 0 0 0) nt tk (fun _ _ => False) (fun r' t' => (True → r' = sumR t i p (tk - p)) ∧ t' = up2 t 0 0 0) i p hi h5 htk p1 h1t ⟨fun _ => sumR_thr _, rfl⟩
      rw [up2_ne (show ¬ (31 = 0 ∧ i = 0) by omega)] at k
      exact k
  · refine ⟨1, 0, up2 t 0 0 (nI 1), res_bad hI (by omega), ?_, ?_⟩
    · simp only [ClI, P_X4_placeAnew, ms0, ov_1, ov_2, ov_3, ov_4, ov_5, ov_6, ov_7, ov_8, ov_10, ov_11, ov_12, ov_13, ov_14, ov_15, ov_16, ov_17, ov_18, ov_19, ov_20, ov_21, ov_22, ov_23, ov_24, ov_25, ov_26, ov_27, ov_28, ov_29, ov_30, ov_31, ov_32, ov_33, ov_34, ov_35, ov_36, hT]
      exact c_num h1 ⟨by omega, rfl, over_bad⟩
    · simp only [MdI, P_X5_placeAnew, B_X5_placeAnew_14, pm_isTrain, pm_isFine, mm20, ar_4, ar_5, ar_6, ar_7, ar_8, ar_9, ar_10, ar_12, ar_13, ar_15, ar_16, ar_17, ar_19, ar_20, ar_21, ar_22, ar_23, ar_24, ar_25, ar_26, ar_27, ar_28, ar_29, ar_30, ar_31, ar_32, ar_33, ar_34, ar_35, ar_36, hT, h2, i10, if_true, if_false]
      exact ⟨fun z => by omega, rfl⟩
end OP3
