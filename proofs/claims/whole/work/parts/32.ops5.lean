/-! the calls, on both sides: trainIs, platformIs, close, pass, isSafe -/
theorem oo17s : (17 != 9 && 17 != 40 && 17 != 0 && 17 != 7) = true := rfl
def tellT (t : TT) (i : Nat) (b : Int32) : Int32 := if b = nI 0 then t 19 i else if b = nI 1 then t 20 i else if b = nI 2 then t 21 i else if b = nI 3 then t 22 i else if b = nI 4 then t 23 i else if b = nI 5 then b2i (!decide (t 33 i = 0)) else if b = nI 6 then b2i (!decide (t 34 i = 0)) else if b = nI 7 then t 26 i else if b = nI 8 then t 27 i else if b = nI 9 then t 28 i else t 29 i
def tellP (t : TT) (p : Nat) (b : Int32) : Int32 := if b = nI 0 then t 4 p else if b = nI 1 then t 6 p else if b = nI 2 then t 7 p else if t 7 p < 2 then -1 else t 9 p
section OP5
variable {t : TT} {n np nb nz nt tk : Nat}
theorem pc_tellT {px : String → TT → Prop} {post : Int32 → TT → Prop} {i : Nat} {b : Int32} (hi : i < nt) (h6 : np ≤ 6) (hs : t 26 i = -1 ∨ ∃ p, p < np ∧ t 26 i = nI p) : P_X2_tell (MS np nb nz nt) post px i b (over t) = post (tellT t i b) (over t) := by
  have o40 : ∀ p, over t 40 p = nI p := fun p => rfl
  have e26 : ∀ q : Int32 → Prop, (if t 26 i = -1 then q (-1) else ¬ t 26 i = -1 ∧ (t 26 i).toNatClampNeg < np ∧ q (over t 40 (t 26 i).toNatClampNeg)) = q (t 26 i) := by
    intro q
    rcases hs with h | ⟨p, hp, h⟩
    · rw [if_pos h, h]
    · have hn := nI_m1 (n := p) (by omega)
      have hcp := cl0 (n := p) (by omega)
      simp only [h, hn, hcp, hp, o40, if_false, true_and, not_false_eq_true]
  have e7 := e26 (fun x => post x (over t))
  unfold P_X2_tell tellT B_X2_tell_93 B_X2_tell_106 B_X2_tell_125
  simp only [ov_19, ov_20, ov_21, ov_22, ov_23, ov_26, ov_27, ov_28, ov_29, ov_33, ov_34, MS_8, MS_5, hi, true_and]
  by_cases c33 : t 33 i = 0 <;> by_cases c34 : t 34 i = 0 <;> simp only [c33, c34, decide_true, decide_false, Bool.not_true, Bool.not_false, b2i, if_true, if_false, Bool.false_eq_true] <;> repeat' (first | rfl | exact e7 | split)
theorem pc_tellP {px : String → TT → Prop} {post : Int32 → TT → Prop} {p : Nat} {b : Int32} (hp : p < np) : P_X1_tell (MS np nb nz nt) post px p b (over t) = post (tellP t p b) (over t) := by
  have o9 : over t 9 p = if t 7 p < 2 then -1 else t 9 p := rfl
  simp only [P_X1_tell, tellP, ov_1, ov_2, ov_3, ov_4, ov_5, ov_6, ov_7, ov_8, ov_10, ov_11, ov_12, ov_13, ov_14, ov_15, ov_16, ov_17, ov_18, ov_19, ov_20, ov_21, ov_22, ov_23, ov_24, ov_25, ov_26, ov_27, ov_28, ov_29, ov_30, ov_31, ov_32, ov_33, ov_34, ov_35, ov_36, MS_5, hp, o9, true_and]
  repeat' (first | rfl | split)
theorem pm_tellT {px : String → TT → Prop} {post : Int32 → TT → Prop} {i : Nat} {b : Int32} (hi : i < 5) : B_X5_trainIs_28 MM post px 0 (nI i) b 0 0 t = post (tellT t i b) (up2 t 0 0 0) := by
  have hv := vp0 (n := i) (N := 5) (by omega) (by omega)
  have hc := cl0 (n := i) (by omega)
  have k1 : ∀ k j, k ≠ 0 → up2 t 0 0 0 k j = t k j := fun k j hk => up2_ne (fun z => hk z.1)
  unfold B_X5_trainIs_28 B_X5_trainIs_141 B_X5_trainIs_156 tellT
  simp only [pm_isFine, mm20, ar_4, ar_5, ar_6, ar_7, ar_8, ar_9, ar_10, ar_12, ar_13, ar_15, ar_16, ar_17, ar_19, ar_20, ar_21, ar_22, ar_23, ar_24, ar_25, ar_26, ar_27, ar_28, ar_29, ar_30, ar_31, ar_32, ar_33, ar_34, ar_35, ar_36, i10, hv, hc, if_true, if_false, true_and, k1 19 i (by omega), k1 20 i (by omega), k1 21 i (by omega), k1 22 i (by omega), k1 23 i (by omega), k1 26 i (by omega), k1 27 i (by omega), k1 28 i (by omega), k1 29 i (by omega), k1 33 i (by omega), k1 34 i (by omega)]
  by_cases c33 : t 33 i = 0 <;> by_cases c34 : t 34 i = 0 <;> simp only [c33, c34, decide_true, decide_false, Bool.not_true, Bool.not_false, b2i, if_true, if_false, Bool.false_eq_true] <;> repeat' (first | rfl | split)
theorem pm_tellP {px : String → TT → Prop} {post : Int32 → TT → Prop} {i : Nat} {b : Int32} (hi : i < 6) : B_X5_platformIs_27 MM post px 0 (nI i) b 0 0 t = post (tellP t i b) (up2 t 0 0 0) := by
  have hv := vp0 (n := i) (N := 6) (by omega) (by omega)
  have hc := cl0 (n := i) (by omega)
  have k1 : ∀ k j, k ≠ 0 → up2 t 0 0 0 k j = t k j := fun k j hk => up2_ne (fun z => hk z.1)
  have n0 : nI 0 = 0 := rfl
  have n1 : nI 1 = 1 := rfl
  have n2 : nI 2 = 2 := rfl
  unfold B_X5_platformIs_27 B_X5_platformIs_55 B_X5_platformIs_98 tellP
  simp only [pm_isFine, mm20, ar_4, ar_5, ar_6, ar_7, ar_8, ar_9, ar_10, ar_12, ar_13, ar_15, ar_16, ar_17, ar_19, ar_20, ar_21, ar_22, ar_23, ar_24, ar_25, ar_26, ar_27, ar_28, ar_29, ar_30, ar_31, ar_32, ar_33, ar_34, ar_35, ar_36, i10, hv, hc, if_true, if_false, true_and, k1 4 i (by omega), k1 6 i (by omega), k1 7 i (by omega), k1 9 i (by omega), n0, n1, n2]
  by_cases c7 : t 7 i < 2
  · have c : ¬ 2 ≤ t 7 i := by rw [i_nle]; exact not_not_intro c7
    simp only [c, c7, if_true, if_false]
    repeat' (first | rfl | split)
  · have c : 2 ≤ t 7 i := by rw [i_nle]; exact c7
    simp only [c, c7, if_true, if_false]
    repeat' (first | rfl | split)
theorem op_trainIs (hI : Inv n np nb nz nt tk t) (a b : Int32) : ∃ code r s', Res n np nb nz nt tk code s' ∧ ClI [IOB, IAE9] code r (over s') (fun post px => P_X4_trainIs (MS np nb nz nt) post px 0 a b (over t)) ∧ MdI code r s' (fun post px => P_X5_trainIs MM post px 0 a b t) := by
  obtain ⟨hT, h5, hP, h6, h1t⟩ := fac hI
  rcases num_cases a (m := nt) (by omega) with ⟨i, hi, rfl, h1, h2, h3⟩ | ⟨h1, h2⟩
  · have hv := vp0 (n := i) (N := 5) (by omega) (by omega)
    have hc := cl0 (n := i) (by omega)
    have hs := (hI.2.2.2.1 i hi).2.2.1
    rcases rng_cases b 0 10 with ⟨g1, g2, g3⟩ | ⟨g1, g2⟩
    · refine ⟨0, tellT t i b, up2 t 0 0 0, ⟨by omega, rfl, hI.thr⟩, ?_, ?_⟩
      · simp only [ClI, P_X4_trainIs, ms0, ov_1, ov_2, ov_3, ov_4, ov_5, ov_6, ov_7, ov_8, ov_10, ov_11, ov_12, ov_13, ov_14, ov_15, ov_16, ov_17, ov_18, ov_19, ov_20, ov_21, ov_22, ov_23, ov_24, ov_25, ov_26, ov_27, ov_28, ov_29, ov_30, ov_31, ov_32, ov_33, ov_34, ov_35, ov_36, hT]
        refine c_numY h1 h2 (c_rngY g1 g2 ?_)
        simp only [pc_tellT hi h6 hs, MS_4, MS_8, ov_1, ov_2, ov_3, ov_4, ov_5, ov_6, ov_7, ov_8, ov_10, ov_11, ov_12, ov_13, ov_14, ov_15, ov_16, ov_17, ov_18, ov_19, ov_20, ov_21, ov_22, ov_23, ov_24, ov_25, ov_26, ov_27, ov_28, ov_29, ov_30, ov_31, ov_32, ov_33, ov_34, ov_35, ov_36, hv, hc, hi, true_and, over_thr]
      · simp only [MdI, P_X5_trainIs, pm_isTrain, pm_in, mm20, hT, h3, g3, i10, if_false, true_and]
        rw [pm_tellT (by omega)]
        exact ⟨fun _ => rfl, rfl⟩
    · refine ⟨2, 0, up2 t 0 0 (nI 2), res_bad hI (by omega), ?_, ?_⟩
      · simp only [ClI, P_X4_trainIs, ms0, ov_1, ov_2, ov_3, ov_4, ov_5, ov_6, ov_7, ov_8, ov_10, ov_11, ov_12, ov_13, ov_14, ov_15, ov_16, ov_17, ov_18, ov_19, ov_20, ov_21, ov_22, ov_23, ov_24, ov_25, ov_26, ov_27, ov_28, ov_29, ov_30, ov_31, ov_32, ov_33, ov_34, ov_35, ov_36, hT]
        exact c_numY h1 h2 (c_rng g1 ⟨by omega, rfl, over_bad⟩)
      · simp only [MdI, P_X5_trainIs, B_X5_trainIs_28, pm_isTrain, pm_in, pm_isFine, mm20, hT, h3, g2, i10, i20, if_true, if_false]
        exact ⟨fun z => by omega, rfl⟩
  · refine ⟨1, 0, up2 t 0 0 (nI 1), res_bad hI (by omega), ?_, ?_⟩
    · simp only [ClI, P_X4_trainIs, ms0, ov_1, ov_2, ov_3, ov_4, ov_5, ov_6, ov_7, ov_8, ov_10, ov_11, ov_12, ov_13, ov_14, ov_15, ov_16, ov_17, ov_18, ov_19, ov_20, ov_21, ov_22, ov_23, ov_24, ov_25, ov_26, ov_27, ov_28, ov_29, ov_30, ov_31, ov_32, ov_33, ov_34, ov_35, ov_36, hT]
      exact c_num h1 ⟨by omega, rfl, over_bad⟩
    · simp only [MdI, P_X5_trainIs, B_X5_trainIs_28, pm_isTrain, pm_isFine, mm20, hT, h2, i10, if_true, if_false]
      exact ⟨fun z => by omega, rfl⟩
theorem op_platformIs (hI : Inv n np nb nz nt tk t) (a b : Int32) : ∃ code r s', Res n np nb nz nt tk code s' ∧ ClI [IOB, IAE9] code r (over s') (fun post px => P_X4_platformIs (MS np nb nz nt) post px 0 a b (over t)) ∧ MdI code r s' (fun post px => P_X5_platformIs MM post px 0 a b t) := by
  obtain ⟨hT, h5, hP, h6, h1t⟩ := fac hI
  rcases num_cases a (m := np) (by omega) with ⟨i, hi, rfl, h1, h2, h3⟩ | ⟨h1, h2⟩
  · have hv := vp0 (n := i) (N := 6) (by omega) (by omega)
    have hc := cl0 (n := i) (by omega)
    rcases rng_cases b 0 3 with ⟨g1, g2, g3⟩ | ⟨g1, g2⟩
    · refine ⟨0, tellP t i b, up2 t 0 0 0, ⟨by omega, rfl, hI.thr⟩, ?_, ?_⟩
      · simp only [ClI, P_X4_platformIs, ms0, ov_1, ov_2, ov_3, ov_4, ov_5, ov_6, ov_7, ov_8, ov_10, ov_11, ov_12, ov_13, ov_14, ov_15, ov_16, ov_17, ov_18, ov_19, ov_20, ov_21, ov_22, ov_23, ov_24, ov_25, ov_26, ov_27, ov_28, ov_29, ov_30, ov_31, ov_32, ov_33, ov_34, ov_35, ov_36, hP]
        refine c_numY h1 h2 (c_rngY g1 g2 ?_)
        simp only [pc_tellP hi, MS_1, MS_5, ov_1, ov_2, ov_3, ov_4, ov_5, ov_6, ov_7, ov_8, ov_10, ov_11, ov_12, ov_13, ov_14, ov_15, ov_16, ov_17, ov_18, ov_19, ov_20, ov_21, ov_22, ov_23, ov_24, ov_25, ov_26, ov_27, ov_28, ov_29, ov_30, ov_31, ov_32, ov_33, ov_34, ov_35, ov_36, hv, hc, hi, true_and, over_thr]
      · simp only [MdI, P_X5_platformIs, pm_isPlatform, pm_in, mm20, hP, h3, g3, i10, if_false, true_and]
        rw [pm_tellP (by omega)]
        exact ⟨fun _ => rfl, rfl⟩
    · refine ⟨2, 0, up2 t 0 0 (nI 2), res_bad hI (by omega), ?_, ?_⟩
      · simp only [ClI, P_X4_platformIs, ms0, ov_1, ov_2, ov_3, ov_4, ov_5, ov_6, ov_7, ov_8, ov_10, ov_11, ov_12, ov_13, ov_14, ov_15, ov_16, ov_17, ov_18, ov_19, ov_20, ov_21, ov_22, ov_23, ov_24, ov_25, ov_26, ov_27, ov_28, ov_29, ov_30, ov_31, ov_32, ov_33, ov_34, ov_35, ov_36, hP]
        exact c_numY h1 h2 (c_rng g1 ⟨by omega, rfl, over_bad⟩)
      · simp only [MdI, P_X5_platformIs, B_X5_platformIs_27, pm_isPlatform, pm_in, pm_isFine, mm20, hP, h3, g2, i10, i20, if_true, if_false]
        exact ⟨fun z => by omega, rfl⟩
  · refine ⟨1, 0, up2 t 0 0 (nI 1), res_bad hI (by omega), ?_, ?_⟩
    · simp only [ClI, P_X4_platformIs, ms0, ov_1, ov_2, ov_3, ov_4, ov_5, ov_6, ov_7, ov_8, ov_10, ov_11, ov_12, ov_13, ov_14, ov_15, ov_16, ov_17, ov_18, ov_19, ov_20, ov_21, ov_22, ov_23, ov_24, ov_25, ov_26, ov_27, ov_28, ov_29, ov_30, ov_31, ov_32, ov_33, ov_34, ov_35, ov_36, hP]
      exact c_num h1 ⟨by omega, rfl, over_bad⟩
    · simp only [MdI, P_X5_platformIs, B_X5_platformIs_27, pm_isPlatform, pm_isFine, mm20, hP, h2, i10, if_true, if_false]
      exact ⟨fun z => by omega, rfl⟩
theorem Inv.set17 {z : Nat} {v : Int32} (h : Inv n np nb nz nt tk t) (hz9 : z < nz) (hv : isB v) : Inv n np nb nz nt tk (up2 t 17 z v) := by
  obtain ⟨hc, htk, hq, hT, hP, hb, hz, z1, z2, z3, z4, z5⟩ := h
  refine ⟨hc, htk, hq, hT, hP, hb, fun z' hz' => ?_, fun k i h1 h2 h3 => ?_, z2, fun k i h1 h2 h3 => ?_, z4, fun i hi => ⟨(z5 i hi).1, (z5 i hi).2.1, ?_⟩⟩
  · by_cases e : z' = z
    · subst e; rw [up2_same]; exact hv
    · rw [up2_ne (fun q => e q.2)]; exact hz z' hz'
  · rw [up2_ne (fun q => by omega)]; exact z1 k i h1 h2 h3
  · rw [up2_ne (fun q => by omega)]; exact z3 k i h1 h2 h3
  · rw [up2_ne (fun q => by omega)]; exact (z5 i hi).2.2
theorem op_close (hI : Inv n np nb nz nt tk t) (a b : Int32) (hb : isB b) : ∃ code r s', Res n np nb nz nt tk code s' ∧ isB r ∧ ClI [IOB, ISE9] code r (over s') (fun post px => P_X4_close (MS np nb nz nt) post px 0 a b (over t)) ∧ MdI code r s' (fun post px => P_X5_close MM post px 0 a b t) := by
  have hB : t 14 0 = nI nz := hI.1.2.2.2.2.1
  have h12 : nz ≤ 4 := hI.1.2.2.2.2.2.1
  rcases num_cases a (m := nz) (by omega) with ⟨i, hi, rfl, h1, h2, h3⟩ | ⟨h1, h2⟩
  · have hv := vp0 (n := i) (N := 4) (by omega) (by omega)
    have hc := cl0 (n := i) (by omega)
    have hw := hI.2.2.2.2.2.2.1 i hi
    have bad : ∀ (C : P_X4_close (MS np nb nz nt) (fun r' t' => (2 : Nat) = 0 ∧ r' = 0 ∧ t' = over (up2 t 0 0 (nI 2))) (fun E t' => (2 : Nat) ≠ 0 ∧ [IOB, ISE9][2 - 1]? = some E ∧ t' = over (up2 t 0 0 (nI 2))) 0 (nI i) b (over t)) (C2 : P_X5_close MM (fun r' t' => ((2 : Nat) = 0 → r' = 0) ∧ t' = up2 t 0 0 (nI 2)) (fun _ _ => False) 0 (nI i) b t), ∃ code r s', Res n np nb nz nt tk code s' ∧ isB r ∧ ClI [IOB, ISE9] code r (over s') (fun post px => P_X4_close (MS np nb nz nt) post px 0 (nI i) b (over t)) ∧ MdI code r s' (fun post px => P_X5_close MM post px 0 (nI i) b t) := fun C C2 => ⟨2, 0, up2 t 0 0 (nI 2), res_bad hI (by omega), isB_0, C, C2⟩
    have I1 : Inv (n + 1) np nb nz nt tk (up2 (up2 t 0 0 0) 17 i b) := hI.thr.set17 hi hb
    have o1 : up2 (over t) 17 i b = over (up2 (up2 t 0 0 0) 17 i b) := by rw [← over_up oo17s, over_thr]
    have good : ∀ (C : ∀ (post : Int32 → TT → Prop) (px : String → TT → Prop), post (t 17 i) (over (dealR (up2 (up2 t 0 0 0) 17 i b) nt nz nt)) → P_X4_close (MS np nb nz nt) post px 0 (nI i) b (over t)) (C2 : ∀ (post : Int32 → TT → Prop) (px : String → TT → Prop), post (t 17 i) (dealR (up2 (up2 t 0 0 0) 17 i b) nt nz nt) → P_X5_close MM post px 0 (nI i) b t), ∃ code r s', Res n np nb nz nt tk code s' ∧ isB r ∧ ClI [IOB, ISE9] code r (over s') (fun post px => P_X4_close (MS np nb nz nt) post px 0 (nI i) b (over t)) ∧ MdI code r s' (fun post px => P_X5_close MM post px 0 (nI i) b t) := fun C C2 => ⟨0, t 17 i, dealR (up2 (up2 t 0 0 0) 17 i b) nt nz nt, ⟨by omega, by rw [dealR_ne (by decide)]; rfl, I1.deal9 nt (Nat.le_refl nt)⟩, hw, C _ _ ⟨rfl, rfl, rfl⟩, C2 _ _ ⟨fun _ => rfl, rfl⟩⟩
    have fin1 : ∀ (post : Int32 → TT → Prop) (px : String → TT → Prop), post (t 17 i) (over (dealR (up2 (up2 t 0 0 0) 17 i b) nt nz nt)) → B_X4_close_43 (MS np nb nz nt) post px 0 b i (t 17 i) 1 (over t) := by
      intro post px h
      simp only [B_X4_close_43, pc_askThat, i10, if_false, ms0, MS_7, hi, hb, true_and]
      rw [o1]
      exact pc_dealLimits I1.1 ⟨hw, h⟩
    have fin2 : ∀ (post : Int32 → TT → Prop) (px : String → TT → Prop), post (t 17 i) (dealR (up2 (up2 t 0 0 0) 17 i b) nt nz nt) → B_X5_close_47 MM post px 0 (nI i) b 0 0 t := by
      intro post px h
      simp only [B_X5_close_47, pm_isFine, mm20, ar_4, ar_5, ar_6, ar_7, ar_8, ar_9, ar_10, ar_12, ar_13, ar_15, ar_16, ar_17, ar_19, ar_20, ar_21, ar_22, ar_23, ar_24, ar_25, ar_26, ar_27, ar_28, ar_29, ar_30, ar_31, ar_32, ar_33, ar_34, ar_35, ar_36, hv, hc, i10, if_true, if_false, true_and, vz_B hb, up2_ne (show ¬ (17 = 0 ∧ i = 0) by omega)]
      exact pm_deal I1.1 ⟨hw, h⟩
    by_cases e : b = 0
    · refine good ?_ ?_
      · intro post px h
        simp only [P_X4_close, B_X4_close_38, ms0, ov_1, ov_2, ov_3, ov_4, ov_5, ov_6, ov_7, ov_8, ov_10, ov_11, ov_12, ov_13, ov_14, ov_15, ov_16, ov_17, ov_18, ov_19, ov_20, ov_21, ov_22, ov_23, ov_24, ov_25, ov_26, ov_27, ov_28, ov_29, ov_30, ov_31, ov_32, ov_33, ov_34, ov_35, ov_36, hB]
        refine c_numY h1 h2 ?_
        simp only [MS_3, MS_7, ov_1, ov_2, ov_3, ov_4, ov_5, ov_6, ov_7, ov_8, ov_10, ov_11, ov_12, ov_13, ov_14, ov_15, ov_16, ov_17, ov_18, ov_19, ov_20, ov_21, ov_22, ov_23, ov_24, ov_25, ov_26, ov_27, ov_28, ov_29, ov_30, ov_31, ov_32, ov_33, ov_34, ov_35, ov_36, hv, hc, hi, e, if_true, true_and]
        have := fin1 post px h
        rw [e] at this
        exact this
      · intro post px h
        simp only [P_X5_close, B_X5_close_46, pm_in, mm20, ar_4, ar_5, ar_6, ar_7, ar_8, ar_9, ar_10, ar_12, ar_13, ar_15, ar_16, ar_17, ar_19, ar_20, ar_21, ar_22, ar_23, ar_24, ar_25, ar_26, ar_27, ar_28, ar_29, ar_30, ar_31, ar_32, ar_33, ar_34, ar_35, ar_36, hB, h3, i10, e, if_true, if_false, true_and]
        have := fin2 post px h
        rw [e] at this
        exact this
    · by_cases z : t 17 i = 0
      · have Km : ∀ (post : Int32 → TT → Prop) (px : String → TT → Prop) (P : Int32 → Prop), P (b2i (allB (okC t i) nt)) → True := fun _ _ _ _ => trivial
        cases ho : allB (okC t i) nt with
        | false =>
          refine bad ?_ ?_
          · simp only [P_X4_close, B_X4_close_38, ms0, ov_1, ov_2, ov_3, ov_4, ov_5, ov_6, ov_7, ov_8, ov_10, ov_11, ov_12, ov_13, ov_14, ov_15, ov_16, ov_17, ov_18, ov_19, ov_20, ov_21, ov_22, ov_23, ov_24, ov_25, ov_26, ov_27, ov_28, ov_29, ov_30, ov_31, ov_32, ov_33, ov_34, ov_35, ov_36, hB]
            refine c_numY h1 h2 ?_
            simp only [MS_3, MS_7, ov_1, ov_2, ov_3, ov_4, ov_5, ov_6, ov_7, ov_8, ov_10, ov_11, ov_12, ov_13, ov_14, ov_15, ov_16, ov_17, ov_18, ov_19, ov_20, ov_21, ov_22, ov_23, ov_24, ov_25, ov_26, ov_27, ov_28, ov_29, ov_30, ov_31, ov_32, ov_33, ov_34, ov_35, ov_36, hv, hc, hi, e, z, if_true, if_false, true_and]
            refine pc_canBeClosed hi hI.1 ?_
            simp only [ho, b2i_0, if_true, B_X4_close_43, pc_askThat]
            exact ⟨by omega, rfl, over_bad⟩
          · simp only [P_X5_close, B_X5_close_46, pm_in, mm20, ar_4, ar_5, ar_6, ar_7, ar_8, ar_9, ar_10, ar_12, ar_13, ar_15, ar_16, ar_17, ar_19, ar_20, ar_21, ar_22, ar_23, ar_24, ar_25, ar_26, ar_27, ar_28, ar_29, ar_30, ar_31, ar_32, ar_33, ar_34, ar_35, ar_36, hB, h3, i10, e, z, hv, hc, if_true, if_false, true_and]
            refine pm_canClose hi hI.1 ?_
            simp only [ho, b2i_0, if_true, B_X5_close_47, pm_isFine, mm20, i20, if_false, isB_0, true_and]
            exact ⟨fun z => by omega, rfl⟩
        | true =>
          refine good ?_ ?_
          · intro post px h
            have F := fin1 post px h
            rw [z] at F
            simp only [P_X4_close, B_X4_close_38, ms0, ov_1, ov_2, ov_3, ov_4, ov_5, ov_6, ov_7, ov_8, ov_10, ov_11, ov_12, ov_13, ov_14, ov_15, ov_16, ov_17, ov_18, ov_19, ov_20, ov_21, ov_22, ov_23, ov_24, ov_25, ov_26, ov_27, ov_28, ov_29, ov_30, ov_31, ov_32, ov_33, ov_34, ov_35, ov_36, hB]
            refine c_numY h1 h2 ?_
            simp only [MS_3, MS_7, ov_1, ov_2, ov_3, ov_4, ov_5, ov_6, ov_7, ov_8, ov_10, ov_11, ov_12, ov_13, ov_14, ov_15, ov_16, ov_17, ov_18, ov_19, ov_20, ov_21, ov_22, ov_23, ov_24, ov_25, ov_26, ov_27, ov_28, ov_29, ov_30, ov_31, ov_32, ov_33, ov_34, ov_35, ov_36, hv, hc, hi, e, z, if_true, if_false, true_and]
            refine pc_canBeClosed hi hI.1 ?_
            simp only [ho, b2i_0, if_false, Bool.true_eq_false]
            exact F
          · intro post px h
            simp only [P_X5_close, B_X5_close_46, pm_in, mm20, ar_4, ar_5, ar_6, ar_7, ar_8, ar_9, ar_10, ar_12, ar_13, ar_15, ar_16, ar_17, ar_19, ar_20, ar_21, ar_22, ar_23, ar_24, ar_25, ar_26, ar_27, ar_28, ar_29, ar_30, ar_31, ar_32, ar_33, ar_34, ar_35, ar_36, hB, h3, i10, e, z, hv, hc, if_true, if_false, true_and]
            refine pm_canClose hi hI.1 ?_
            simp only [ho, b2i_0, if_false, Bool.true_eq_false]
            exact fin2 post px h
      · refine good ?_ ?_
        · intro post px h
          simp only [P_X4_close, B_X4_close_38, ms0, ov_1, ov_2, ov_3, ov_4, ov_5, ov_6, ov_7, ov_8, ov_10, ov_11, ov_12, ov_13, ov_14, ov_15, ov_16, ov_17, ov_18, ov_19, ov_20, ov_21, ov_22, ov_23, ov_24, ov_25, ov_26, ov_27, ov_28, ov_29, ov_30, ov_31, ov_32, ov_33, ov_34, ov_35, ov_36, hB]
          refine c_numY h1 h2 ?_
          simp only [MS_3, MS_7, ov_1, ov_2, ov_3, ov_4, ov_5, ov_6, ov_7, ov_8, ov_10, ov_11, ov_12, ov_13, ov_14, ov_15, ov_16, ov_17, ov_18, ov_19, ov_20, ov_21, ov_22, ov_23, ov_24, ov_25, ov_26, ov_27, ov_28, ov_29, ov_30, ov_31, ov_32, ov_33, ov_34, ov_35, ov_36, hv, hc, hi, e, z, if_false, true_and]
          exact fin1 post px h
        · intro post px h
          simp only [P_X5_close, B_X5_close_46, pm_in, mm20, ar_4, ar_5, ar_6, ar_7, ar_8, ar_9, ar_10, ar_12, ar_13, ar_15, ar_16, ar_17, ar_19, ar_20, ar_21, ar_22, ar_23, ar_24, ar_25, ar_26, ar_27, ar_28, ar_29, ar_30, ar_31, ar_32, ar_33, ar_34, ar_35, ar_36, hB, h3, i10, e, z, hv, hc, if_true, if_false, true_and]
          exact fin2 post px h
  · refine ⟨1, 0, up2 t 0 0 (nI 1), res_bad hI (by omega), isB_0, ?_, ?_⟩
    · simp only [ClI, P_X4_close, ms0, ov_1, ov_2, ov_3, ov_4, ov_5, ov_6, ov_7, ov_8, ov_10, ov_11, ov_12, ov_13, ov_14, ov_15, ov_16, ov_17, ov_18, ov_19, ov_20, ov_21, ov_22, ov_23, ov_24, ov_25, ov_26, ov_27, ov_28, ov_29, ov_30, ov_31, ov_32, ov_33, ov_34, ov_35, ov_36, hB]
      exact c_num h1 ⟨by omega, rfl, over_bad⟩
    · simp only [MdI, P_X5_close, B_X5_close_47, pm_in, pm_isFine, mm20, hB, h2, i10, if_true, if_false, isB_0, true_and]
      exact ⟨fun z => by omega, rfl⟩
end OP5
