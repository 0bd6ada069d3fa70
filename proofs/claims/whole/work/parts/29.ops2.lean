/-! the calls, on both sides: trains and PLATFORMS -/
section OP2
variable {t : TT} {n np nb nz nt tk : Nat}
theorem nI_btw {x : Int32} {lo hi : Nat} (h1 : ¬ x < nI lo) (h2 : x ≤ nI hi) (hl : hi < 2 ^ 31) (hll : lo < 2 ^ 31) : ∃ j, lo ≤ j ∧ j ≤ hi ∧ x = nI j := by
  rw [i_lt, nI_toInt hll] at h1
  rw [i_le, nI_toInt hl] at h2
  obtain ⟨j, j0, rfl⟩ := nI_of (x := x) (by rw [i_lt, i_0]; omega)
  rw [nI_toInt j0] at h1 h2
  exact ⟨j, by omega, by omega, rfl⟩
theorem op_rate (hI : Inv n np nb nz nt tk t) (a b : Int32) : ∃ code r s', Res n np nb nz nt tk code s' ∧ ClI [IOB, IAE9] code r (over s') (fun post px => P_X4_rate (MS np nb nz nt) post px 0 a b (over t)) ∧ MdI code r s' (fun post px => P_X5_rate MM post px 0 a b t) := by
  have hT := (fac hI).2.2.1
  have h5 := (fac hI).2.2.2.1
  rcases num_cases a (m := np) (by omega) with ⟨i, hi, rfl, h1, h2, h3⟩ | ⟨h1, h2⟩
  · have hv := vp0 (n := i) (N := 6) (by omega) (by omega)
    have hc := cl0 (n := i) (by omega)
    rcases rng_cases b 0 9 with ⟨g1, g2, g3⟩ | ⟨g1, g2⟩
    · obtain ⟨j, -, j2, j3⟩ := nI_btw (lo := 0) (hi := 9) g1 g2 (by omega) (by omega)
      refine ⟨0, t 5 i, up2 (up2 t 0 0 0) 5 i b, ⟨by omega, rfl, hI.thr.plat (by omega) hi ?_⟩, ?_, ?_⟩
      · obtain ⟨q1, q2, -⟩ := hI.thr (v := 0).2.2.2.2.1 i hi
        unfold PlI
        simp only [up_5_1, up_5_2, up_5_3, up_5_4, up_5_6, up_5_7, up_5_8, up_5_10, up_5_11, up_5_12, up_5_13, up_5_14, up_5_15, up_5_16, up_5_17, up_5_18, up_5_19, up_5_20, up_5_21, up_5_22, up_5_23, up_5_24, up_5_25, up_5_26, up_5_27, up_5_28, up_5_29, up_5_30, up_5_31, up_5_32, up_5_33, up_5_34, up_5_35, up_5_36, up2_same]
        exact ⟨q1, q2, j, j2, j3⟩
      · simp only [ClI, P_X4_rate, ms0, ov_1, ov_2, ov_3, ov_4, ov_5, ov_6, ov_7, ov_8, ov_10, ov_11, ov_12, ov_13, ov_14, ov_15, ov_16, ov_17, ov_18, ov_19, ov_20, ov_21, ov_22, ov_23, ov_24, ov_25, ov_26, ov_27, ov_28, ov_29, ov_30, ov_31, ov_32, ov_33, ov_34, ov_35, ov_36, hT]
        refine c_numY h1 h2 (c_rngY g1 g2 ?_)
        simp only [MS_1, MS_5, ov_1, ov_2, ov_3, ov_4, ov_5, ov_6, ov_7, ov_8, ov_10, ov_11, ov_12, ov_13, ov_14, ov_15, ov_16, ov_17, ov_18, ov_19, ov_20, ov_21, ov_22, ov_23, ov_24, ov_25, ov_26, ov_27, ov_28, ov_29, ov_30, ov_31, ov_32, ov_33, ov_34, ov_35, ov_36, hv, hc, hi, true_and, ← over_up oo5, over_thr]
      · simp only [MdI, B_X5_rate_28, P_X5_rate, pm_isPlatform, pm_in, pm_isFine, mm20, ar_4, ar_5, ar_6, ar_7, ar_8, ar_9, ar_10, ar_12, ar_13, ar_15, ar_16, ar_17, ar_19, ar_20, ar_21, ar_22, ar_23, ar_24, ar_25, ar_26, ar_27, ar_28, ar_29, ar_30, ar_31, ar_32, ar_33, ar_34, ar_35, ar_36, hT, h3, g3, i10, hv, hc, if_true, if_false, true_and]
        exact ⟨fun _ => rfl, trivial⟩
    · refine ⟨2, 0, up2 t 0 0 (nI 2), res_bad hI (by omega), ?_, ?_⟩
      · simp only [ClI, P_X4_rate, ms0, ov_1, ov_2, ov_3, ov_4, ov_5, ov_6, ov_7, ov_8, ov_10, ov_11, ov_12, ov_13, ov_14, ov_15, ov_16, ov_17, ov_18, ov_19, ov_20, ov_21, ov_22, ov_23, ov_24, ov_25, ov_26, ov_27, ov_28, ov_29, ov_30, ov_31, ov_32, ov_33, ov_34, ov_35, ov_36, hT]
        exact c_numY h1 h2 (c_rng g1 ⟨by omega, rfl, over_bad⟩)
      · simp only [MdI, B_X5_rate_28, P_X5_rate, pm_isPlatform, pm_in, pm_isFine, mm20, ar_4, ar_5, ar_6, ar_7, ar_8, ar_9, ar_10, ar_12, ar_13, ar_15, ar_16, ar_17, ar_19, ar_20, ar_21, ar_22, ar_23, ar_24, ar_25, ar_26, ar_27, ar_28, ar_29, ar_30, ar_31, ar_32, ar_33, ar_34, ar_35, ar_36, hT, h3, g2, i10, i20, if_true, if_false]
        exact ⟨fun z => by omega, rfl⟩
  · refine ⟨1, 0, up2 t 0 0 (nI 1), res_bad hI (by omega), ?_, ?_⟩
    · simp only [ClI, P_X4_rate, ms0, ov_1, ov_2, ov_3, ov_4, ov_5, ov_6, ov_7, ov_8, ov_10, ov_11, ov_12, ov_13, ov_14, ov_15, ov_16, ov_17, ov_18, ov_19, ov_20, ov_21, ov_22, ov_23, ov_24, ov_25, ov_26, ov_27, ov_28, ov_29, ov_30, ov_31, ov_32, ov_33, ov_34, ov_35, ov_36, hT]
      exact c_num h1 ⟨by omega, rfl, over_bad⟩
    · simp only [MdI, B_X5_rate_28, P_X5_rate, pm_isPlatform, pm_in, pm_isFine, mm20, ar_4, ar_5, ar_6, ar_7, ar_8, ar_9, ar_10, ar_12, ar_13, ar_15, ar_16, ar_17, ar_19, ar_20, ar_21, ar_22, ar_23, ar_24, ar_25, ar_26, ar_27, ar_28, ar_29, ar_30, ar_31, ar_32, ar_33, ar_34, ar_35, ar_36, hT, h2, i10, if_true, if_false]
      exact ⟨fun z => by omega, rfl⟩
theorem op_bar (hI : Inv n np nb nz nt tk t) (w a b : Int32) (hw : isB w) : ∃ code r s', Res n np nb nz nt tk code s' ∧ ClI [IOB, IAE9] code r (over s') (fun post px => P_X4_bar (MS np nb nz nt) post px 0 w a b (over t)) ∧ MdI code r s' (fun post px => P_X5_bar MM post px 0 w a b t) := by
  obtain ⟨hT, h5, hP, h6, -⟩ := fac hI
  rcases hw with rfl | rfl
  · rcases num_cases a (m := np) (by omega) with ⟨i, hi, rfl, h1, h2, h3⟩ | ⟨h1, h2⟩
    · have hv := vp0 (n := i) (N := 6) (by omega) (by omega)
      have hc := cl0 (n := i) (by omega)
      rcases rng_cases b 0 15 with ⟨g1, g2, g3⟩ | ⟨g1, g2⟩
      · refine ⟨0, t 10 i, up2 (up2 t 0 0 0) 10 i b, ⟨by omega, rfl, hI.thr.plat (by omega) hi (hI.thr (v := 0).2.2.2.2.1 i hi)⟩, ?_, ?_⟩
        · simp only [ClI, B_X4_bar_75, B_X4_bar_16, P_X4_bar, ms0, ov_1, ov_2, ov_3, ov_4, ov_5, ov_6, ov_7, ov_8, ov_10, ov_11, ov_12, ov_13, ov_14, ov_15, ov_16, ov_17, ov_18, ov_19, ov_20, ov_21, ov_22, ov_23, ov_24, ov_25, ov_26, ov_27, ov_28, ov_29, ov_30, ov_31, ov_32, ov_33, ov_34, ov_35, ov_36, hP, if_true]
          refine c_numY h1 h2 (c_rngY g1 g2 ?_)
          simp only [MS_1, MS_5, ov_1, ov_2, ov_3, ov_4, ov_5, ov_6, ov_7, ov_8, ov_10, ov_11, ov_12, ov_13, ov_14, ov_15, ov_16, ov_17, ov_18, ov_19, ov_20, ov_21, ov_22, ov_23, ov_24, ov_25, ov_26, ov_27, ov_28, ov_29, ov_30, ov_31, ov_32, ov_33, ov_34, ov_35, ov_36, hv, hc, hi, true_and, ← over_up oo10, over_thr]
        · simp only [MdI, B_X5_bar_94, B_X5_bar_71, B_X5_bar_44, B_X5_bar_17, P_X5_bar, pm_isPlatform, pm_in, pm_isFine, mm20, ar_4, ar_5, ar_6, ar_7, ar_8, ar_9, ar_10, ar_12, ar_13, ar_15, ar_16, ar_17, ar_19, ar_20, ar_21, ar_22, ar_23, ar_24, ar_25, ar_26, ar_27, ar_28, ar_29, ar_30, ar_31, ar_32, ar_33, ar_34, ar_35, ar_36, hP, h3, g3, i10, hv, hc, if_true, if_false, true_and]
          exact ⟨fun _ => rfl, trivial⟩
      · refine ⟨2, 0, up2 t 0 0 (nI 2), res_bad hI (by omega), ?_, ?_⟩
        · simp only [ClI, B_X4_bar_75, B_X4_bar_16, P_X4_bar, ms0, ov_1, ov_2, ov_3, ov_4, ov_5, ov_6, ov_7, ov_8, ov_10, ov_11, ov_12, ov_13, ov_14, ov_15, ov_16, ov_17, ov_18, ov_19, ov_20, ov_21, ov_22, ov_23, ov_24, ov_25, ov_26, ov_27, ov_28, ov_29, ov_30, ov_31, ov_32, ov_33, ov_34, ov_35, ov_36, hP, if_true]
          exact c_numY h1 h2 (c_rng g1 ⟨by omega, rfl, over_bad⟩)
        · simp only [MdI, B_X5_bar_94, B_X5_bar_71, B_X5_bar_44, B_X5_bar_17, P_X5_bar, pm_isPlatform, pm_in, pm_isFine, mm20, ar_4, ar_5, ar_6, ar_7, ar_8, ar_9, ar_10, ar_12, ar_13, ar_15, ar_16, ar_17, ar_19, ar_20, ar_21, ar_22, ar_23, ar_24, ar_25, ar_26, ar_27, ar_28, ar_29, ar_30, ar_31, ar_32, ar_33, ar_34, ar_35, ar_36, hP, h3, g2, i10, i20, if_true, if_false]
          exact ⟨fun z => by omega, rfl⟩
    · refine ⟨1, 0, up2 t 0 0 (nI 1), res_bad hI (by omega), ?_, ?_⟩
      · simp only [ClI, B_X4_bar_75, B_X4_bar_16, P_X4_bar, ms0, ov_1, ov_2, ov_3, ov_4, ov_5, ov_6, ov_7, ov_8, ov_10, ov_11, ov_12, ov_13, ov_14, ov_15, ov_16, ov_17, ov_18, ov_19, ov_20, ov_21, ov_22, ov_23, ov_24, ov_25, ov_26, ov_27, ov_28, ov_29, ov_30, ov_31, ov_32, ov_33, ov_34, ov_35, ov_36, hP, if_true]
        exact c_num h1 ⟨by omega, rfl, over_bad⟩
      · simp only [MdI, B_X5_bar_94, B_X5_bar_71, B_X5_bar_44, B_X5_bar_17, P_X5_bar, pm_isPlatform, pm_in, pm_isFine, mm20, ar_4, ar_5, ar_6, ar_7, ar_8, ar_9, ar_10, ar_12, ar_13, ar_15, ar_16, ar_17, ar_19, ar_20, ar_21, ar_22, ar_23, ar_24, ar_25, ar_26, ar_27, ar_28, ar_29, ar_30, ar_31, ar_32, ar_33, ar_34, ar_35, ar_36, hP, h2, i10, if_true, if_false]
        exact ⟨fun z => by omega, rfl⟩
  · rcases num_cases a (m := nt) (by omega) with ⟨i, hi, rfl, h1, h2, h3⟩ | ⟨h1, h2⟩
    · have hv := vp0 (n := i) (N := 5) (by omega) (by omega)
      have hc := cl0 (n := i) (by omega)
      rcases rng_cases b 0 15 with ⟨g1, g2, g3⟩ | ⟨g1, g2⟩
      · refine ⟨0, t 30 i, up2 (up2 t 0 0 0) 30 i b, ⟨by omega, rfl, hI.thr.free (by omega) hi⟩, ?_, ?_⟩
        · simp only [ClI, B_X4_bar_75, B_X4_bar_16, P_X4_bar, ms0, ov_1, ov_2, ov_3, ov_4, ov_5, ov_6, ov_7, ov_8, ov_10, ov_11, ov_12, ov_13, ov_14, ov_15, ov_16, ov_17, ov_18, ov_19, ov_20, ov_21, ov_22, ov_23, ov_24, ov_25, ov_26, ov_27, ov_28, ov_29, ov_30, ov_31, ov_32, ov_33, ov_34, ov_35, ov_36, hT, i10, if_false]
          refine c_numY h1 h2 (c_rngY g1 g2 ?_)
          simp only [MS_4, MS_8, ov_1, ov_2, ov_3, ov_4, ov_5, ov_6, ov_7, ov_8, ov_10, ov_11, ov_12, ov_13, ov_14, ov_15, ov_16, ov_17, ov_18, ov_19, ov_20, ov_21, ov_22, ov_23, ov_24, ov_25, ov_26, ov_27, ov_28, ov_29, ov_30, ov_31, ov_32, ov_33, ov_34, ov_35, ov_36, hv, hc, hi, true_and, ← over_up oo30, over_thr]
        · simp only [MdI, B_X5_bar_94, B_X5_bar_71, B_X5_bar_44, B_X5_bar_17, P_X5_bar, pm_isTrain, pm_in, pm_isFine, mm20, ar_4, ar_5, ar_6, ar_7, ar_8, ar_9, ar_10, ar_12, ar_13, ar_15, ar_16, ar_17, ar_19, ar_20, ar_21, ar_22, ar_23, ar_24, ar_25, ar_26, ar_27, ar_28, ar_29, ar_30, ar_31, ar_32, ar_33, ar_34, ar_35, ar_36, hT, h3, g3, i10, hv, hc, if_true, if_false, true_and]
          exact ⟨fun _ => rfl, trivial⟩
      · refine ⟨2, 0, up2 t 0 0 (nI 2), res_bad hI (by omega), ?_, ?_⟩
        · simp only [ClI, B_X4_bar_75, B_X4_bar_16, P_X4_bar, ms0, ov_1, ov_2, ov_3, ov_4, ov_5, ov_6, ov_7, ov_8, ov_10, ov_11, ov_12, ov_13, ov_14, ov_15, ov_16, ov_17, ov_18, ov_19, ov_20, ov_21, ov_22, ov_23, ov_24, ov_25, ov_26, ov_27, ov_28, ov_29, ov_30, ov_31, ov_32, ov_33, ov_34, ov_35, ov_36, hT, i10, if_false]
          exact c_numY h1 h2 (c_rng g1 ⟨by omega, rfl, over_bad⟩)
        · simp only [MdI, B_X5_bar_94, B_X5_bar_71, B_X5_bar_44, B_X5_bar_17, P_X5_bar, pm_isTrain, pm_in, pm_isFine, mm20, ar_4, ar_5, ar_6, ar_7, ar_8, ar_9, ar_10, ar_12, ar_13, ar_15, ar_16, ar_17, ar_19, ar_20, ar_21, ar_22, ar_23, ar_24, ar_25, ar_26, ar_27, ar_28, ar_29, ar_30, ar_31, ar_32, ar_33, ar_34, ar_35, ar_36, hT, h3, g2, i10, i20, if_true, if_false]
          exact ⟨fun z => by omega, rfl⟩
    · refine ⟨1, 0, up2 t 0 0 (nI 1), res_bad hI (by omega), ?_, ?_⟩
      · simp only [ClI, B_X4_bar_75, B_X4_bar_16, P_X4_bar, ms0, ov_1, ov_2, ov_3, ov_4, ov_5, ov_6, ov_7, ov_8, ov_10, ov_11, ov_12, ov_13, ov_14, ov_15, ov_16, ov_17, ov_18, ov_19, ov_20, ov_21, ov_22, ov_23, ov_24, ov_25, ov_26, ov_27, ov_28, ov_29, ov_30, ov_31, ov_32, ov_33, ov_34, ov_35, ov_36, hT, i10, if_false]
        exact c_num h1 ⟨by omega, rfl, over_bad⟩
      · simp only [MdI, B_X5_bar_94, B_X5_bar_71, B_X5_bar_44, B_X5_bar_17, P_X5_bar, pm_isTrain, pm_in, pm_isFine, mm20, ar_4, ar_5, ar_6, ar_7, ar_8, ar_9, ar_10, ar_12, ar_13, ar_15, ar_16, ar_17, ar_19, ar_20, ar_21, ar_22, ar_23, ar_24, ar_25, ar_26, ar_27, ar_28, ar_29, ar_30, ar_31, ar_32, ar_33, ar_34, ar_35, ar_36, hT, h2, i10, if_true, if_false]
        exact ⟨fun z => by omega, rfl⟩
theorem op_emergency (hI : Inv n np nb nz nt tk t) (a : Int32) : ∃ code r s', Res n np nb nz nt tk code s' ∧ isB r ∧ ClI [IOB] code r (over s') (fun post px => P_X4_emergency (MS np nb nz nt) post px 0 a (over t)) ∧ MdI code r s' (fun post px => P_X5_emergency MM post px 0 a t) := by
  have hT := (fac hI).1
  have h5 := (fac hI).2.1
  rcases num_cases a (m := nt) (by omega) with ⟨i, hi, rfl, h1, h2, h3⟩ | ⟨h1, h2⟩
  · have hv := vp0 (n := i) (N := 5) (by omega) (by omega)
    have hc := cl0 (n := i) (by omega)
    obtain ⟨⟨s, s1, s2⟩, -, -, -, -, -, -, hb, -, hz, -⟩ := hI.2.2.2.1 i hi
    by_cases e : t 22 i ≤ 0
    · have e33 : t 33 i = 0 := by
        rcases hb with z | z
        · exact z
        · have h9 := hz (by rw [z, Ne, i10]; exact id)
          exact absurd (by rcases pos_dec s (by omega) with q | q
                           · rw [i_le, s2, nI_toInt (by omega), i_0] at e
                             rw [s2, show s = 0 by omega]
                             rfl
                           · rw [i_le, s2, nI_toInt (by omega), i_0] at e
                             rw [s2, show s = 0 by omega]
                             rfl) h9
      refine ⟨0, 0, up2 t 0 0 0, ⟨by omega, rfl, hI.thr⟩, isB_0, ?_, ?_⟩
      · simp only [ClI, B_X4_emergency_27, P_X4_emergency, ms0, ov_1, ov_2, ov_3, ov_4, ov_5, ov_6, ov_7, ov_8, ov_10, ov_11, ov_12, ov_13, ov_14, ov_15, ov_16, ov_17, ov_18, ov_19, ov_20, ov_21, ov_22, ov_23, ov_24, ov_25, ov_26, ov_27, ov_28, ov_29, ov_30, ov_31, ov_32, ov_33, ov_34, ov_35, ov_36, hT]
        refine c_numY h1 h2 ?_
        simp only [MS_4, MS_8, ov_1, ov_2, ov_3, ov_4, ov_5, ov_6, ov_7, ov_8, ov_10, ov_11, ov_12, ov_13, ov_14, ov_15, ov_16, ov_17, ov_18, ov_19, ov_20, ov_21, ov_22, ov_23, ov_24, ov_25, ov_26, ov_27, ov_28, ov_29, ov_30, ov_31, ov_32, ov_33, ov_34, ov_35, ov_36, hv, hc, hi, e, e33, if_true, true_and, over_thr, isB_0]
      · simp only [MdI, B_X5_emergency_41, B_X5_emergency_14, P_X5_emergency, pm_isTrain, pm_isFine, mm20, ar_4, ar_5, ar_6, ar_7, ar_8, ar_9, ar_10, ar_12, ar_13, ar_15, ar_16, ar_17, ar_19, ar_20, ar_21, ar_22, ar_23, ar_24, ar_25, ar_26, ar_27, ar_28, ar_29, ar_30, ar_31, ar_32, ar_33, ar_34, ar_35, ar_36, hT, h3, i10, hv, hc, if_true, if_false, true_and, up2_ne (show ¬ (22 = 0 ∧ i = 0) by omega), e, vz_0, up2_same, isB_0]
        exact ⟨fun _ => trivial, up2_self (by rw [up2_ne (by omega), e33])⟩
    · refine ⟨0, 1, up2 (up2 t 0 0 0) 33 i 1, ⟨by omega, rfl, hI.thr.train (by omega) hi ?_⟩, isB_1, ?_, ?_⟩
      · obtain ⟨q1, q2, q3, q4, q5, q6, q7, q8, q9, -, q11⟩ := hI.thr (v := 0).2.2.2.1 i hi
        unfold TrI
        simp only [up_33_1, up_33_2, up_33_3, up_33_4, up_33_5, up_33_6, up_33_7, up_33_8, up_33_10, up_33_11, up_33_12, up_33_13, up_33_14, up_33_15, up_33_16, up_33_17, up_33_18, up_33_19, up_33_20, up_33_21, up_33_22, up_33_23, up_33_24, up_33_25, up_33_26, up_33_27, up_33_28, up_33_29, up_33_30, up_33_31, up_33_32, up_33_34, up_33_35, up_33_36, up2_same]
        refine ⟨q1, q2, q3, q4, q5, q6, q7, isB_1, q9, fun _ z => e ?_, q11⟩
        have z' : t 22 i = 0 := z
        rw [z']
        exact Int32.le_refl 0
      · simp only [ClI, B_X4_emergency_27, P_X4_emergency, ms0, ov_1, ov_2, ov_3, ov_4, ov_5, ov_6, ov_7, ov_8, ov_10, ov_11, ov_12, ov_13, ov_14, ov_15, ov_16, ov_17, ov_18, ov_19, ov_20, ov_21, ov_22, ov_23, ov_24, ov_25, ov_26, ov_27, ov_28, ov_29, ov_30, ov_31, ov_32, ov_33, ov_34, ov_35, ov_36, hT]
        refine c_numY h1 h2 ?_
        simp only [MS_4, MS_8, ov_1, ov_2, ov_3, ov_4, ov_5, ov_6, ov_7, ov_8, ov_10, ov_11, ov_12, ov_13, ov_14, ov_15, ov_16, ov_17, ov_18, ov_19, ov_20, ov_21, ov_22, ov_23, ov_24, ov_25, ov_26, ov_27, ov_28, ov_29, ov_30, ov_31, ov_32, ov_33, ov_34, ov_35, ov_36, hv, hc, hi, e, if_false, true_and, ← over_up oo33, over_thr, isB_1, up2_same]
      · simp only [MdI, B_X5_emergency_41, B_X5_emergency_14, P_X5_emergency, pm_isTrain, pm_isFine, mm20, ar_4, ar_5, ar_6, ar_7, ar_8, ar_9, ar_10, ar_12, ar_13, ar_15, ar_16, ar_17, ar_19, ar_20, ar_21, ar_22, ar_23, ar_24, ar_25, ar_26, ar_27, ar_28, ar_29, ar_30, ar_31, ar_32, ar_33, ar_34, ar_35, ar_36, hT, h3, i10, hv, hc, if_true, if_false, true_and, up2_ne (show ¬ (22 = 0 ∧ i = 0) by omega), e, vz_1, up2_same, isB_1]
        exact ⟨fun _ => trivial, trivial⟩
  · refine ⟨1, 0, up2 t 0 0 (nI 1), res_bad hI (by omega), isB_0, ?_, ?_⟩
    · simp only [ClI, B_X4_emergency_27, P_X4_emergency, ms0, ov_1, ov_2, ov_3, ov_4, ov_5, ov_6, ov_7, ov_8, ov_10, ov_11, ov_12, ov_13, ov_14, ov_15, ov_16, ov_17, ov_18, ov_19, ov_20, ov_21, ov_22, ov_23, ov_24, ov_25, ov_26, ov_27, ov_28, ov_29, ov_30, ov_31, ov_32, ov_33, ov_34, ov_35, ov_36, hT]
      exact c_num h1 ⟨by omega, rfl, over_bad⟩
    · simp only [MdI, B_X5_emergency_41, B_X5_emergency_14, P_X5_emergency, pm_isTrain, pm_isFine, mm20, ar_4, ar_5, ar_6, ar_7, ar_8, ar_9, ar_10, ar_12, ar_13, ar_15, ar_16, ar_17, ar_19, ar_20, ar_21, ar_22, ar_23, ar_24, ar_25, ar_26, ar_27, ar_28, ar_29, ar_30, ar_31, ar_32, ar_33, ar_34, ar_35, ar_36, hT, h2, i10, if_true, if_false, isB_0, true_and]
      exact ⟨fun z => by omega, rfl⟩
theorem op_hold (hI : Inv n np nb nz nt tk t) (a b : Int32) : ∃ code r s', Res n np nb nz nt tk code s' ∧ ClI [IOB, IAE9, ISE9] code r (over s') (fun post px => P_X4_hold (MS np nb nz nt) post px 0 a b (over t)) ∧ MdI code r s' (fun post px => P_X5_hold MM post px 0 a b t) := by
  have hT := (fac hI).1
  have h5 := (fac hI).2.1
  rcases num_cases a (m := nt) (by omega) with ⟨i, hi, rfl, h1, h2, h3⟩ | ⟨h1, h2⟩
  · have hv := vp0 (n := i) (N := 5) (by omega) (by omega)
    have hc := cl0 (n := i) (by omega)
    obtain ⟨⟨s, s1, s2⟩, -, -, -, -, -, ⟨w, w1, w2⟩, -⟩ := hI.2.2.2.1 i hi
    rcases rng_cases b 1 60 with ⟨g1, g2, g3⟩ | ⟨g1, g2⟩
    · obtain ⟨j, -, j2, j3⟩ := nI_btw (lo := 1) (hi := 60) g1 g2 (by omega) (by omega)
      by_cases e : s = 0
      · subst e
        have e0 : t 22 i = 0 := s2
        have e1 : t 22 i ≤ 0 := by rw [e0]; exact Int32.le_refl 0
        refine ⟨0, mmin (t 29 i + b) 99, up2 (up2 t 0 0 0) 29 i (mmin (t 29 i + b) 99), ⟨by omega, rfl, hI.thr.train (by omega) hi ?_⟩, ?_, ?_⟩
        · obtain ⟨q1, q2, q3, q4, q5, q6, -, q8⟩ := hI.thr (v := 0).2.2.2.1 i hi
          unfold TrI
          simp only [up_29_1, up_29_2, up_29_3, up_29_4, up_29_5, up_29_6, up_29_7, up_29_8, up_29_10, up_29_11, up_29_12, up_29_13, up_29_14, up_29_15, up_29_16, up_29_17, up_29_18, up_29_19, up_29_20, up_29_21, up_29_22, up_29_23, up_29_24, up_29_25, up_29_26, up_29_27, up_29_28, up_29_30, up_29_31, up_29_32, up_29_33, up_29_34, up_29_35, up_29_36, up2_same]
          refine ⟨q1, q2, q3, q4, q5, q6, ⟨min (w + j) 99, by omega, ?_⟩, q8⟩
          rw [w2, j3, nI_add]
          exact nI_min (a := w + j) (b := 99) (by omega) (by omega)
        · simp only [ClI, B_X4_hold_34, P_X4_hold, ms0, ov_1, ov_2, ov_3, ov_4, ov_5, ov_6, ov_7, ov_8, ov_10, ov_11, ov_12, ov_13, ov_14, ov_15, ov_16, ov_17, ov_18, ov_19, ov_20, ov_21, ov_22, ov_23, ov_24, ov_25, ov_26, ov_27, ov_28, ov_29, ov_30, ov_31, ov_32, ov_33, ov_34, ov_35, ov_36, hT]
          refine c_numY h1 h2 (c_rngY g1 g2 ?_)
          simp only [pc_askThat, MS_4, MS_8, ov_1, ov_2, ov_3, ov_4, ov_5, ov_6, ov_7, ov_8, ov_10, ov_11, ov_12, ov_13, ov_14, ov_15, ov_16, ov_17, ov_18, ov_19, ov_20, ov_21, ov_22, ov_23, ov_24, ov_25, ov_26, ov_27, ov_28, ov_29, ov_30, ov_31, ov_32, ov_33, ov_34, ov_35, ov_36, hv, hc, hi, e0, i10, if_true, if_false, true_and, ← over_up oo29, over_thr, up2_same]
        · simp only [MdI, B_X5_hold_80, B_X5_hold_41, P_X5_hold, pm_isTrain, pm_in, pm_isFine, mm20, ar_4, ar_5, ar_6, ar_7, ar_8, ar_9, ar_10, ar_12, ar_13, ar_15, ar_16, ar_17, ar_19, ar_20, ar_21, ar_22, ar_23, ar_24, ar_25, ar_26, ar_27, ar_28, ar_29, ar_30, ar_31, ar_32, ar_33, ar_34, ar_35, ar_36, hT, h3, g3, i10, hv, hc, e1, if_true, if_false, true_and, up2_ne (show ¬ (29 = 0 ∧ i = 0) by omega), up2_same, mmin_le]
          by_cases c : t 29 i + b ≤ 99
          · simp only [c, if_true]; exact ⟨fun _ => trivial, trivial⟩
          · simp only [c, if_false]; exact ⟨fun _ => trivial, trivial⟩
      · have e0 : ¬ t 22 i = 0 := by rw [s2]; exact nI_ne0 (by omega) (by omega)
        have e1 : ¬ t 22 i ≤ 0 := by rw [s2]; exact nI_nle (by omega) (by omega)
        refine ⟨3, 0, up2 t 0 0 (nI 3), res_bad hI (by omega), ?_, ?_⟩
        · simp only [ClI, B_X4_hold_34, P_X4_hold, ms0, ov_1, ov_2, ov_3, ov_4, ov_5, ov_6, ov_7, ov_8, ov_10, ov_11, ov_12, ov_13, ov_14, ov_15, ov_16, ov_17, ov_18, ov_19, ov_20, ov_21, ov_22, ov_23, ov_24, ov_25, ov_26, ov_27, ov_28, ov_29, ov_30, ov_31, ov_32, ov_33, ov_34, ov_35, ov_36, hT]
          refine c_numY h1 h2 (c_rngY g1 g2 ?_)
          simp only [pc_askThat, MS_4, MS_8, ov_1, ov_2, ov_3, ov_4, ov_5, ov_6, ov_7, ov_8, ov_10, ov_11, ov_12, ov_13, ov_14, ov_15, ov_16, ov_17, ov_18, ov_19, ov_20, ov_21, ov_22, ov_23, ov_24, ov_25, ov_26, ov_27, ov_28, ov_29, ov_30, ov_31, ov_32, ov_33, ov_34, ov_35, ov_36, hv, hc, hi, e0, if_true, if_false, true_and]
          exact ⟨by omega, rfl, over_bad⟩
        · simp only [MdI, B_X5_hold_80, B_X5_hold_41, P_X5_hold, pm_isTrain, pm_in, pm_isFine, mm20, ar_4, ar_5, ar_6, ar_7, ar_8, ar_9, ar_10, ar_12, ar_13, ar_15, ar_16, ar_17, ar_19, ar_20, ar_21, ar_22, ar_23, ar_24, ar_25, ar_26, ar_27, ar_28, ar_29, ar_30, ar_31, ar_32, ar_33, ar_34, ar_35, ar_36, hT, h3, g3, i10, i30, hv, hc, e1, if_true, if_false, true_and]
          exact ⟨fun z => by omega, rfl⟩
    · refine ⟨2, 0, up2 t 0 0 (nI 2), res_bad hI (by omega), ?_, ?_⟩
      · simp only [ClI, B_X4_hold_34, P_X4_hold, ms0, ov_1, ov_2, ov_3, ov_4, ov_5, ov_6, ov_7, ov_8, ov_10, ov_11, ov_12, ov_13, ov_14, ov_15, ov_16, ov_17, ov_18, ov_19, ov_20, ov_21, ov_22, ov_23, ov_24, ov_25, ov_26, ov_27, ov_28, ov_29, ov_30, ov_31, ov_32, ov_33, ov_34, ov_35, ov_36, hT]
        exact c_numY h1 h2 (c_rng g1 ⟨by omega, rfl, over_bad⟩)
      · simp only [MdI, B_X5_hold_80, B_X5_hold_41, P_X5_hold, pm_isTrain, pm_in, pm_isFine, mm20, ar_4, ar_5, ar_6, ar_7, ar_8, ar_9, ar_10, ar_12, ar_13, ar_15, ar_16, ar_17, ar_19, ar_20, ar_21, ar_22, ar_23, ar_24, ar_25, ar_26, ar_27, ar_28, ar_29, ar_30, ar_31, ar_32, ar_33, ar_34, ar_35, ar_36, hT, h3, g2, i10, i20, if_true, if_false]
        exact ⟨fun z => by omega, rfl⟩
  · refine ⟨1, 0, up2 t 0 0 (nI 1), res_bad hI (by omega), ?_, ?_⟩
    · simp only [ClI, B_X4_hold_34, P_X4_hold, ms0, ov_1, ov_2, ov_3, ov_4, ov_5, ov_6, ov_7, ov_8, ov_10, ov_11, ov_12, ov_13, ov_14, ov_15, ov_16, ov_17, ov_18, ov_19, ov_20, ov_21, ov_22, ov_23, ov_24, ov_25, ov_26, ov_27, ov_28, ov_29, ov_30, ov_31, ov_32, ov_33, ov_34, ov_35, ov_36, hT]
      exact c_num h1 ⟨by omega, rfl, over_bad⟩
    · simp only [MdI, B_X5_hold_80, B_X5_hold_41, P_X5_hold, pm_isTrain, pm_in, pm_isFine, mm20, ar_4, ar_5, ar_6, ar_7, ar_8, ar_9, ar_10, ar_12, ar_13, ar_15, ar_16, ar_17, ar_19, ar_20, ar_21, ar_22, ar_23, ar_24, ar_25, ar_26, ar_27, ar_28, ar_29, ar_30, ar_31, ar_32, ar_33, ar_34, ar_35, ar_36, hT, h2, i10, if_true, if_false]
      exact ⟨fun z => by omega, rfl⟩
theorem op_shut (hI : Inv n np nb nz nt tk t) (a : Int32) : ∃ code s', Res n np nb nz nt tk code s' ∧ ClV [IOB, ISE9] code (over s') (fun post px => P_X4_shut (MS np nb nz nt) post px 0 a (over t)) ∧ MdV s' (fun post px => P_X5_shut MM post px 0 a t) := by
  have hT := (fac hI).1
  have h5 := (fac hI).2.1
  rcases num_cases a (m := nt) (by omega) with ⟨i, hi, rfl, h1, h2, h3⟩ | ⟨h1, h2⟩
  · have hv := vp0 (n := i) (N := 5) (by omega) (by omega)
    have hc := cl0 (n := i) (by omega)
    by_cases e : t 27 i = -1
    · refine ⟨2, up2 t 0 0 (nI 2), res_bad hI (by omega), ?_, ?_⟩
      · simp only [ClV, P_X4_shut, ms0, ov_1, ov_2, ov_3, ov_4, ov_5, ov_6, ov_7, ov_8, ov_10, ov_11, ov_12, ov_13, ov_14, ov_15, ov_16, ov_17, ov_18, ov_19, ov_20, ov_21, ov_22, ov_23, ov_24, ov_25, ov_26, ov_27, ov_28, ov_29, ov_30, ov_31, ov_32, ov_33, ov_34, ov_35, ov_36, hT]
        refine c_numY h1 h2 ?_
        simp only [pc_askThat, pc_hasOpenDoors hi, b2i_0, MS_4, MS_8, ov_1, ov_2, ov_3, ov_4, ov_5, ov_6, ov_7, ov_8, ov_10, ov_11, ov_12, ov_13, ov_14, ov_15, ov_16, ov_17, ov_18, ov_19, ov_20, ov_21, ov_22, ov_23, ov_24, ov_25, ov_26, ov_27, ov_28, ov_29, ov_30, ov_31, ov_32, ov_33, ov_34, ov_35, ov_36, hv, hc, hi, e, decide_true, Bool.not_true, if_true, true_and]
        exact ⟨by omega, rfl, over_bad⟩
      · simp only [MdV, B_X5_shut_41, B_X5_shut_28, P_X5_shut, pm_isTrain, pm_isFine, mm20, ar_4, ar_5, ar_6, ar_7, ar_8, ar_9, ar_10, ar_12, ar_13, ar_15, ar_16, ar_17, ar_19, ar_20, ar_21, ar_22, ar_23, ar_24, ar_25, ar_26, ar_27, ar_28, ar_29, ar_30, ar_31, ar_32, ar_33, ar_34, ar_35, ar_36, hT, h3, i10, i20, hv, hc, e, if_true, if_false, true_and]
        rfl
    · refine ⟨0, up2 (up2 t 0 0 0) 27 i (-1), ⟨by omega, rfl, hI.thr.train (by omega) hi ?_⟩, ?_, ?_⟩
      · obtain ⟨q1, q2, q3, -, -, q6⟩ := hI.thr (v := 0).2.2.2.1 i hi
        unfold TrI
        simp only [up_27_1, up_27_2, up_27_3, up_27_4, up_27_5, up_27_6, up_27_7, up_27_8, up_27_10, up_27_11, up_27_12, up_27_13, up_27_14, up_27_15, up_27_16, up_27_17, up_27_18, up_27_19, up_27_20, up_27_21, up_27_22, up_27_23, up_27_24, up_27_25, up_27_26, up_27_28, up_27_29, up_27_30, up_27_31, up_27_32, up_27_33, up_27_34, up_27_35, up_27_36, up2_same]
        exact ⟨q1, q2, q3, Or.inl trivial, fun z => absurd rfl z, q6⟩
      · simp only [ClV, P_X4_shut, ms0, ov_1, ov_2, ov_3, ov_4, ov_5, ov_6, ov_7, ov_8, ov_10, ov_11, ov_12, ov_13, ov_14, ov_15, ov_16, ov_17, ov_18, ov_19, ov_20, ov_21, ov_22, ov_23, ov_24, ov_25, ov_26, ov_27, ov_28, ov_29, ov_30, ov_31, ov_32, ov_33, ov_34, ov_35, ov_36, hT]
        refine c_numY h1 h2 ?_
        simp only [pc_askThat, pc_hasOpenDoors hi, b2i_0, MS_4, MS_8, ov_1, ov_2, ov_3, ov_4, ov_5, ov_6, ov_7, ov_8, ov_10, ov_11, ov_12, ov_13, ov_14, ov_15, ov_16, ov_17, ov_18, ov_19, ov_20, ov_21, ov_22, ov_23, ov_24, ov_25, ov_26, ov_27, ov_28, ov_29, ov_30, ov_31, ov_32, ov_33, ov_34, ov_35, ov_36, hv, hc, hi, e, decide_false, Bool.not_false, Bool.true_eq_false, if_false, true_and, ← over_up oo27, over_thr]
      · simp only [MdV, B_X5_shut_41, B_X5_shut_28, P_X5_shut, pm_isTrain, pm_isFine, mm20, ar_4, ar_5, ar_6, ar_7, ar_8, ar_9, ar_10, ar_12, ar_13, ar_15, ar_16, ar_17, ar_19, ar_20, ar_21, ar_22, ar_23, ar_24, ar_25, ar_26, ar_27, ar_28, ar_29, ar_30, ar_31, ar_32, ar_33, ar_34, ar_35, ar_36, hT, h3, i10, hv, hc, e, if_true, if_false, true_and]
  · refine ⟨1, up2 t 0 0 (nI 1), res_bad hI (by omega), ?_, ?_⟩
    · simp only [ClV, P_X4_shut, ms0, ov_1, ov_2, ov_3, ov_4, ov_5, ov_6, ov_7, ov_8, ov_10, ov_11, ov_12, ov_13, ov_14, ov_15, ov_16, ov_17, ov_18, ov_19, ov_20, ov_21, ov_22, ov_23, ov_24, ov_25, ov_26, ov_27, ov_28, ov_29, ov_30, ov_31, ov_32, ov_33, ov_34, ov_35, ov_36, hT]
      exact c_num h1 ⟨by omega, rfl, over_bad⟩
    · simp only [MdV, B_X5_shut_41, B_X5_shut_28, P_X5_shut, pm_isTrain, pm_isFine, mm20, ar_4, ar_5, ar_6, ar_7, ar_8, ar_9, ar_10, ar_12, ar_13, ar_15, ar_16, ar_17, ar_19, ar_20, ar_21, ar_22, ar_23, ar_24, ar_25, ar_26, ar_27, ar_28, ar_29, ar_30, ar_31, ar_32, ar_33, ar_34, ar_35, ar_36, hT, h2, i10, if_true, if_false]
      rfl
end OP2
