/-! the calls: what each answers, on both sides; first those that change one number -/
def ClI (exs : List String) (code : Nat) (r : Int32) (s' : TT) (P : (Int32 → TT → Prop) → (String → TT → Prop) → Prop) : Prop := P (fun r' t' => code = 0 ∧ r' = r ∧ t' = s') (fun E t' => code ≠ 0 ∧ exs[code - 1]? = some E ∧ t' = s')
def ClV (exs : List String) (code : Nat) (s' : TT) (P : (TT → Prop) → (String → TT → Prop) → Prop) : Prop := P (fun t' => code = 0 ∧ t' = s') (fun E t' => code ≠ 0 ∧ exs[code - 1]? = some E ∧ t' = s')
def MdI (code : Nat) (r : Int32) (s' : TT) (P : (Int32 → TT → Prop) → (String → TT → Prop) → Prop) : Prop := P (fun r' t' => (code = 0 → r' = r) ∧ t' = s') (fun _ _ => False)
def MdV (s' : TT) (P : (TT → Prop) → (String → TT → Prop) → Prop) : Prop := P (fun t' => t' = s') (fun _ _ => False)
def Res (n np nb nz nt tk code : Nat) (s' : TT) : Prop := code ≤ 3 ∧ s' 0 0 = nI code ∧ Inv (n + 1) np nb nz nt tk s'
section OP
variable {t : TT} {n np nb nz nt tk : Nat}
theorem Inv.thr {v : Int32} (h : Inv n np nb nz nt tk t) : Inv (n + 1) np nb nz nt tk (up2 t 0 0 v) := by
  obtain ⟨hc, htk, hq, hT, hP, hb, hz, z1, z2, z3, z4, z5⟩ := h
  refine ⟨hc, htk, hq, hT, fun p hp => ?_, hb, hz, fun k i h1 h2 h3 => ?_, z2, fun k i h1 h2 h3 => ?_, z4, z5⟩
  · obtain ⟨⟨d, d1, d2⟩, h2, h3⟩ := hP p hp
    exact ⟨⟨d, by omega, d2⟩, h2, h3⟩
  · rw [up2_ne (fun z => by omega)]; exact z1 k i h1 h2 h3
  · rw [up2_ne (fun z => by omega)]; exact z3 k i h1 h2 h3
theorem res_bad {c : Nat} (h : Inv n np nb nz nt tk t) (hc : c ≤ 3) : Res n np nb nz nt tk c (up2 t 0 0 (nI c)) := ⟨hc, up2_same _ _ _ _, h.thr⟩
theorem num_cases (a : Int32) {m : Nat} (hm : m ≤ 1000) : (∃ i, i < m ∧ a = nI i ∧ ¬ nI i < 0 ∧ nI i < nI m ∧ inS (nI i) 0 (nI m - 1) = 1) ∨ ((a < 0 ∨ (¬ a < 0 ∧ ¬ a < nI m)) ∧ inS a 0 (nI m - 1) = 0) := by
  have hm1 : (nI m - 1).toInt = (m : Int) - 1 := by
    have h1 := nI_toInt (n := m) (by omega)
    rw [i_sub (by rw [h1, i_1]; omega) (by rw [h1, i_1]; omega), h1, i_1]
  by_cases h0 : a < 0
  · exact Or.inr ⟨Or.inl h0, by unfold inS; rw [if_pos h0]⟩
  · by_cases h1 : a < nI m
    · obtain ⟨j, hj, rfl⟩ := nI_of h0
      have hjm : j < m := (nI_ltI hj (by omega)).mp h1
      refine Or.inl ⟨j, hjm, rfl, h0, h1, ?_⟩
      unfold inS
      rw [if_neg h0, if_neg]
      rw [i_lt, hm1, nI_toInt hj]
      omega
    · refine Or.inr ⟨Or.inr ⟨h0, h1⟩, ?_⟩
      unfold inS
      rw [if_neg h0, if_pos]
      rw [i_lt] at h1 ⊢
      rw [nI_toInt (by omega)] at h1
      omega
theorem rng_cases (b lo hi : Int32) : (¬ b < lo ∧ b ≤ hi ∧ inS b lo hi = 1) ∨ ((b < lo ∨ (¬ b < lo ∧ ¬ b ≤ hi)) ∧ inS b lo hi = 0) := by
  unfold inS
  by_cases h0 : b < lo
  · exact Or.inr ⟨Or.inl h0, if_pos h0⟩
  · by_cases h1 : b ≤ hi
    · refine Or.inl ⟨h0, h1, ?_⟩
      rw [if_neg h0, if_neg]
      rw [i_le] at h1
      rw [i_lt]
      omega
    · refine Or.inr ⟨Or.inr ⟨h0, h1⟩, ?_⟩
      rw [if_neg h0, if_pos]
      rw [i_le] at h1
      rw [i_lt]
      omega
theorem c_num {M : Nat → Nat → Bool} {post : TT → Prop} {px : String → TT → Prop} {a b : Int32} (h : a < 0 ∨ (¬ a < 0 ∧ ¬ a < b)) (hx : px IOB t) : P_X4_askNumber M post px a b t := by
  rw [pc_askNumber]
  rcases h with h | ⟨h, h2⟩
  · rw [if_pos h]; exact hx
  · rw [if_neg h, if_neg h2]; exact hx
theorem c_rng {M : Nat → Nat → Bool} {post : TT → Prop} {px : String → TT → Prop} {a b d : Int32} (h : a < b ∨ (¬ a < b ∧ ¬ a ≤ d)) (hx : px IAE9 t) : P_X4_askRange M post px a b d t := by
  rw [pc_askRange]
  rcases h with h | ⟨h, h2⟩
  · rw [if_pos h]; exact hx
  · rw [if_neg h, if_neg h2]; exact hx
theorem c_numY {M : Nat → Nat → Bool} {post : TT → Prop} {px : String → TT → Prop} {a b : Int32} (h : ¬ a < 0) (h2 : a < b) (hx : post t) : P_X4_askNumber M post px a b t := by
  rw [pc_askNumber, if_neg h, if_pos h2]; exact hx
theorem c_rngY {M : Nat → Nat → Bool} {post : TT → Prop} {px : String → TT → Prop} {a b d : Int32} (h : ¬ a < b) (h2 : a ≤ d) (hx : post t) : P_X4_askRange M post px a b d t := by
  rw [pc_askRange, if_neg h, if_pos h2]; exact hx
theorem i20 : ((2 : Int32) = 0) = False := eq_false (by decide +kernel)
theorem i30 : ((3 : Int32) = 0) = False := eq_false (by decide +kernel)
theorem i01 : ((0 : Int32) = 1) = False := eq_false (by decide +kernel)
theorem over_bad {c : Nat} : over t = over (up2 t 0 0 (nI c)) := over_thr.symm
theorem Inv.set13 {b : Nat} {v : Int32} (h : Inv n np nb nz nt tk t) (hb9 : b < nb) (hv : isB v) : Inv n np nb nz nt tk (up2 t 13 b v) := by
  obtain ⟨hc, htk, hq, hT, hP, hb, hz, z1, z2, z3, z4, z5⟩ := h
  refine ⟨hc, htk, hq, hT, hP, fun b' hb' => ?_, hz, fun k i h1 h2 h3 => ?_, z2, fun k i h1 h2 h3 => ?_, fun i hi => ⟨(z4 i hi).1, ?_⟩, z5⟩
  · by_cases e : b' = b
    · subst e; rw [up2_same]; exact hv
    · rw [up2_ne (fun z => e z.2)]; exact hb b' hb'
  · rw [up2_ne (fun z => by omega)]; exact z1 k i h1 h2 h3
  · rw [up2_ne (fun z => by omega)]; exact z3 k i h1 h2 h3
  · rw [up2_ne (fun z => by omega)]; exact (z4 i hi).2
theorem Inv.set2 {q : Nat} (h : Inv n np nb nz nt tk t) (h1 : 1 ≤ q) (h2 : q ≤ 20) : Inv n np nb nz nt tk (up2 t 2 0 (nI q)) := by
  obtain ⟨hc, htk, hq, hT, hP, hb, hz, z1, z2, z3, z4, z5⟩ := h
  refine ⟨hc, htk, ⟨q, h1, h2, up2_same _ _ _ _⟩, hT, hP, hb, hz, fun k i h1 h2 h3 => ?_, z2, fun k i h1 h2 h3 => ?_, z4, z5⟩
  · rw [up2_ne (fun z => by omega)]; exact z1 k i h1 h2 h3
  · rw [up2_ne (fun z => by omega)]; exact z3 k i h1 h2 h3
theorem oo13 : (13 != 9 && 13 != 40 && 13 != 0 && 13 != 7) = true := rfl
theorem oo2 : (2 != 9 && 2 != 40 && 2 != 0 && 2 != 7) = true := rfl
theorem oo25 : (25 != 9 && 25 != 40 && 25 != 0 && 25 != 7) = true := rfl
theorem oo34 : (34 != 9 && 34 != 40 && 34 != 0 && 34 != 7) = true := rfl
theorem oo33 : (33 != 9 && 33 != 40 && 33 != 0 && 33 != 7) = true := rfl
theorem oo5 : (5 != 9 && 5 != 40 && 5 != 0 && 5 != 7) = true := rfl
theorem oo10 : (10 != 9 && 10 != 40 && 10 != 0 && 10 != 7) = true := rfl
theorem oo30 : (30 != 9 && 30 != 40 && 30 != 0 && 30 != 7) = true := rfl
theorem oo27 : (27 != 9 && 27 != 40 && 27 != 0 && 27 != 7) = true := rfl
theorem oo26 : (26 != 9 && 26 != 40 && 26 != 0 && 26 != 7) = true := rfl
theorem oo17 : (17 != 9 && 17 != 40 && 17 != 0 && 17 != 7) = true := rfl
theorem op_works (hI : Inv n np nb nz nt tk t) (a b : Int32) (hb : isB b) : ∃ code r s', Res n np nb nz nt tk code s' ∧ isB r ∧ ClI [IOB] code r (over s') (fun post px => P_X4_works (MS np nb nz nt) post px 0 a b (over t)) ∧ MdI code r s' (fun post px => P_X5_works MM post px 0 a b t) := by
  have hB := hI.1.2.2.1
  have h12 := hI.1.2.2.2.1
  rcases num_cases a (m := nb) (by omega) with ⟨i, hi, rfl, h1, h2, h3⟩ | ⟨h1, h2⟩
  · have hv := vp0 (n := i) (N := 12) (by omega) (by omega)
    have hc := cl0 (n := i) (by omega)
    have hw := hI.2.2.2.2.2.1 i hi
    refine ⟨0, t 13 i, up2 (up2 t 0 0 0) 13 i b, ⟨by omega, rfl, hI.thr.set13 hi hb⟩, hw, ?_, ?_⟩
    · simp only [ClI, P_X4_works, ms0, ov_1, ov_2, ov_3, ov_4, ov_5, ov_6, ov_7, ov_8, ov_10, ov_11, ov_12, ov_13, ov_14, ov_15, ov_16, ov_17, ov_18, ov_19, ov_20, ov_21, ov_22, ov_23, ov_24, ov_25, ov_26, ov_27, ov_28, ov_29, ov_30, ov_31, ov_32, ov_33, ov_34, ov_35, ov_36, hB]
      refine c_numY h1 h2 ?_
      simp only [MS_2, MS_6, ov_1, ov_2, ov_3, ov_4, ov_5, ov_6, ov_7, ov_8, ov_10, ov_11, ov_12, ov_13, ov_14, ov_15, ov_16, ov_17, ov_18, ov_19, ov_20, ov_21, ov_22, ov_23, ov_24, ov_25, ov_26, ov_27, ov_28, ov_29, ov_30, ov_31, ov_32, ov_33, ov_34, ov_35, ov_36, hv, hc, hi, hb, hw, true_and, ← over_up oo13, over_thr]
    · simp only [MdI, B_X5_works_20, P_X5_works, pm_in, pm_isFine, mm20, ar_4, ar_5, ar_6, ar_7, ar_8, ar_9, ar_10, ar_12, ar_13, ar_15, ar_16, ar_17, ar_19, ar_20, ar_21, ar_22, ar_23, ar_24, ar_25, ar_26, ar_27, ar_28, ar_29, ar_30, ar_31, ar_32, ar_33, ar_34, ar_35, ar_36, hB, h3, i10, hv, hc, if_true, if_false, vz_B hb, true_and]
      exact ⟨hw, fun _ => rfl, trivial⟩
  · refine ⟨1, 0, up2 t 0 0 (nI 1), res_bad hI (by omega), isB_0, ?_, ?_⟩
    · simp only [ClI, P_X4_works, ms0, ov_1, ov_2, ov_3, ov_4, ov_5, ov_6, ov_7, ov_8, ov_10, ov_11, ov_12, ov_13, ov_14, ov_15, ov_16, ov_17, ov_18, ov_19, ov_20, ov_21, ov_22, ov_23, ov_24, ov_25, ov_26, ov_27, ov_28, ov_29, ov_30, ov_31, ov_32, ov_33, ov_34, ov_35, ov_36, hB]
      exact c_num h1 ⟨by omega, rfl, over_bad⟩
    · simp only [MdI, B_X5_works_20, P_X5_works, pm_in, pm_isFine, mm20, ar_4, ar_5, ar_6, ar_7, ar_8, ar_9, ar_10, ar_12, ar_13, ar_15, ar_16, ar_17, ar_19, ar_20, ar_21, ar_22, ar_23, ar_24, ar_25, ar_26, ar_27, ar_28, ar_29, ar_30, ar_31, ar_32, ar_33, ar_34, ar_35, ar_36, hB, h2, i10, if_true, if_false, isB_0, true_and]
      exact ⟨fun z => by omega, rfl⟩
theorem op_speed (hI : Inv n np nb nz nt tk t) (a : Int32) : ∃ code r s', Res n np nb nz nt tk code s' ∧ ClI [IAE9] code r (over s') (fun post px => P_X4_speed (MS np nb nz nt) post px 0 a (over t)) ∧ MdI code r s' (fun post px => P_X5_speed MM post px 0 a t) := by
  rcases rng_cases a 1 20 with ⟨h1, h2, h3⟩ | ⟨h1, h2⟩
  · obtain ⟨j, j0, j1⟩ := nI_of (x := a) (by rw [i_lt] at h1 ⊢; rw [i_1] at h1; rw [i_0]; omega)
    have j2 : 1 ≤ j ∧ j ≤ 20 := by
      rw [j1, i_lt, i_1, nI_toInt j0] at h1
      rw [j1, i_le, nI_toInt j0, show (20 : Int32).toInt = 20 from by decide +kernel] at h2
      omega
    refine ⟨0, t 2 0, up2 (up2 t 0 0 0) 2 0 a, ⟨by omega, rfl, by rw [j1]; exact hI.thr.set2 j2.1 j2.2⟩, ?_, ?_⟩
    · simp only [ClI, P_X4_speed]
      refine c_rngY h1 h2 ?_
      simp only [ms0, ov_1, ov_2, ov_3, ov_4, ov_5, ov_6, ov_7, ov_8, ov_10, ov_11, ov_12, ov_13, ov_14, ov_15, ov_16, ov_17, ov_18, ov_19, ov_20, ov_21, ov_22, ov_23, ov_24, ov_25, ov_26, ov_27, ov_28, ov_29, ov_30, ov_31, ov_32, ov_33, ov_34, ov_35, ov_36, ← over_up oo2, over_thr, true_and]
    · simp only [MdI, B_X5_speed_16, P_X5_speed, pm_in, pm_isFine, mm20, ar_4, ar_5, ar_6, ar_7, ar_8, ar_9, ar_10, ar_12, ar_13, ar_15, ar_16, ar_17, ar_19, ar_20, ar_21, ar_22, ar_23, ar_24, ar_25, ar_26, ar_27, ar_28, ar_29, ar_30, ar_31, ar_32, ar_33, ar_34, ar_35, ar_36, h3, i10, if_true, if_false]
      exact ⟨fun _ => rfl, trivial⟩
  · refine ⟨1, 0, up2 t 0 0 (nI 1), res_bad hI (by omega), ?_, ?_⟩
    · simp only [ClI, P_X4_speed]
      exact c_rng h1 ⟨by omega, rfl, over_bad⟩
    · simp only [MdI, B_X5_speed_16, P_X5_speed, pm_in, pm_isFine, mm20, ar_4, ar_5, ar_6, ar_7, ar_8, ar_9, ar_10, ar_12, ar_13, ar_15, ar_16, ar_17, ar_19, ar_20, ar_21, ar_22, ar_23, ar_24, ar_25, ar_26, ar_27, ar_28, ar_29, ar_30, ar_31, ar_32, ar_33, ar_34, ar_35, ar_36, h2, i10, if_true, if_false]
      exact ⟨fun z => by omega, rfl⟩
theorem op_slip (hI : Inv n np nb nz nt tk t) (a b : Int32) : ∃ code r s', Res n np nb nz nt tk code s' ∧ ClI [IOB, IAE9] code r (over s') (fun post px => P_X4_slip (MS np nb nz nt) post px 0 a b (over t)) ∧ MdI code r s' (fun post px => P_X5_slip MM post px 0 a b t) := by
  have hT := (fac hI).1
  have h5 := (fac hI).2.1
  rcases num_cases a (m := nt) (by omega) with ⟨i, hi, rfl, h1, h2, h3⟩ | ⟨h1, h2⟩
  · have hv := vp0 (n := i) (N := 5) (by omega) (by omega)
    have hc := cl0 (n := i) (by omega)
    rcases rng_cases b (-1) 1 with ⟨g1, g2, g3⟩ | ⟨g1, g2⟩
    · have hb : b = -1 ∨ b = 0 ∨ b = 1 := by
        rw [i_lt, i_m1] at g1
        rw [i_le, i_1] at g2
        simp only [i_eq, i_m1, i_0, i_1]
        omega
      refine ⟨0, t 25 i, up2 (up2 t 0 0 0) 25 i b, ⟨by omega, rfl, hI.thr.train (by omega) hi ?_⟩, ?_, ?_⟩
      · obtain ⟨q1, -, q3⟩ := hI.thr (v := 0).2.2.2.1 i hi
        unfold TrI
        simp only [up_25_1, up_25_2, up_25_3, up_25_4, up_25_5, up_25_6, up_25_7, up_25_8, up_25_10, up_25_11, up_25_12, up_25_13, up_25_14, up_25_15, up_25_16, up_25_17, up_25_18, up_25_19, up_25_20, up_25_21, up_25_22, up_25_23, up_25_24, up_25_26, up_25_27, up_25_28, up_25_29, up_25_30, up_25_31, up_25_32, up_25_33, up_25_34, up_25_35, up_25_36, up2_same]
        exact ⟨q1, hb, q3⟩
      · simp only [ClI, P_X4_slip, ms0, ov_1, ov_2, ov_3, ov_4, ov_5, ov_6, ov_7, ov_8, ov_10, ov_11, ov_12, ov_13, ov_14, ov_15, ov_16, ov_17, ov_18, ov_19, ov_20, ov_21, ov_22, ov_23, ov_24, ov_25, ov_26, ov_27, ov_28, ov_29, ov_30, ov_31, ov_32, ov_33, ov_34, ov_35, ov_36, hT]
        refine c_numY h1 h2 (c_rngY g1 g2 ?_)
        simp only [MS_4, MS_8, ov_1, ov_2, ov_3, ov_4, ov_5, ov_6, ov_7, ov_8, ov_10, ov_11, ov_12, ov_13, ov_14, ov_15, ov_16, ov_17, ov_18, ov_19, ov_20, ov_21, ov_22, ov_23, ov_24, ov_25, ov_26, ov_27, ov_28, ov_29, ov_30, ov_31, ov_32, ov_33, ov_34, ov_35, ov_36, hv, hc, hi, true_and, ← over_up oo25, over_thr]
      · simp only [MdI, B_X5_slip_27, P_X5_slip, pm_isTrain, pm_in, pm_isFine, mm20, ar_4, ar_5, ar_6, ar_7, ar_8, ar_9, ar_10, ar_12, ar_13, ar_15, ar_16, ar_17, ar_19, ar_20, ar_21, ar_22, ar_23, ar_24, ar_25, ar_26, ar_27, ar_28, ar_29, ar_30, ar_31, ar_32, ar_33, ar_34, ar_35, ar_36, hT, h3, g3, i10, hv, hc, if_true, if_false, true_and]
        exact ⟨fun _ => rfl, trivial⟩
    · refine ⟨2, 0, up2 t 0 0 (nI 2), res_bad hI (by omega), ?_, ?_⟩
      · simp only [ClI, P_X4_slip, ms0, ov_1, ov_2, ov_3, ov_4, ov_5, ov_6, ov_7, ov_8, ov_10, ov_11, ov_12, ov_13, ov_14, ov_15, ov_16, ov_17, ov_18, ov_19, ov_20, ov_21, ov_22, ov_23, ov_24, ov_25, ov_26, ov_27, ov_28, ov_29, ov_30, ov_31, ov_32, ov_33, ov_34, ov_35, ov_36, hT]
        exact c_numY h1 h2 (c_rng g1 ⟨by omega, rfl, over_bad⟩)
      · simp only [MdI, B_X5_slip_27, P_X5_slip, pm_isTrain, pm_in, pm_isFine, mm20, ar_4, ar_5, ar_6, ar_7, ar_8, ar_9, ar_10, ar_12, ar_13, ar_15, ar_16, ar_17, ar_19, ar_20, ar_21, ar_22, ar_23, ar_24, ar_25, ar_26, ar_27, ar_28, ar_29, ar_30, ar_31, ar_32, ar_33, ar_34, ar_35, ar_36, hT, h3, g2, i10, i20, if_true, if_false]
        exact ⟨fun z => by omega, rfl⟩
  · refine ⟨1, 0, up2 t 0 0 (nI 1), res_bad hI (by omega), ?_, ?_⟩
    · simp only [ClI, P_X4_slip, ms0, ov_1, ov_2, ov_3, ov_4, ov_5, ov_6, ov_7, ov_8, ov_10, ov_11, ov_12, ov_13, ov_14, ov_15, ov_16, ov_17, ov_18, ov_19, ov_20, ov_21, ov_22, ov_23, ov_24, ov_25, ov_26, ov_27, ov_28, ov_29, ov_30, ov_31, ov_32, ov_33, ov_34, ov_35, ov_36, hT]
      exact c_num h1 ⟨by omega, rfl, over_bad⟩
    · simp only [MdI, B_X5_slip_27, P_X5_slip, pm_isTrain, pm_in, pm_isFine, mm20, ar_4, ar_5, ar_6, ar_7, ar_8, ar_9, ar_10, ar_12, ar_13, ar_15, ar_16, ar_17, ar_19, ar_20, ar_21, ar_22, ar_23, ar_24, ar_25, ar_26, ar_27, ar_28, ar_29, ar_30, ar_31, ar_32, ar_33, ar_34, ar_35, ar_36, hT, h2, i10, if_true, if_false]
      exact ⟨fun z => by omega, rfl⟩
theorem op_silent (hI : Inv n np nb nz nt tk t) (a b : Int32) (hb : isB b) : ∃ code r s', Res n np nb nz nt tk code s' ∧ isB r ∧ ClI [IOB] code r (over s') (fun post px => P_X4_silent (MS np nb nz nt) post px 0 a b (over t)) ∧ MdI code r s' (fun post px => P_X5_silent MM post px 0 a b t) := by
  have hT := (fac hI).1
  have h5 := (fac hI).2.1
  rcases num_cases a (m := nt) (by omega) with ⟨i, hi, rfl, h1, h2, h3⟩ | ⟨h1, h2⟩
  · have hv := vp0 (n := i) (N := 5) (by omega) (by omega)
    have hc := cl0 (n := i) (by omega)
    have hw := (hI.2.2.2.1 i hi).2.2.2.2.2.2.2.2.1
    refine ⟨0, t 34 i, up2 (up2 t 0 0 0) 34 i b, ⟨by omega, rfl, hI.thr.train (by omega) hi ?_⟩, hw, ?_, ?_⟩
    · obtain ⟨q1, q2, q3, q4, q5, q6, q7, q8, -, q10⟩ := hI.thr (v := 0).2.2.2.1 i hi
      unfold TrI
      simp only [up_34_1, up_34_2, up_34_3, up_34_4, up_34_5, up_34_6, up_34_7, up_34_8, up_34_10, up_34_11, up_34_12, up_34_13, up_34_14, up_34_15, up_34_16, up_34_17, up_34_18, up_34_19, up_34_20, up_34_21, up_34_22, up_34_23, up_34_24, up_34_25, up_34_26, up_34_27, up_34_28, up_34_29, up_34_30, up_34_31, up_34_32, up_34_33, up_34_35, up_34_36, up2_same]
      exact ⟨q1, q2, q3, q4, q5, q6, q7, q8, hb, q10⟩
    · simp only [ClI, P_X4_silent, ms0, ov_1, ov_2, ov_3, ov_4, ov_5, ov_6, ov_7, ov_8, ov_10, ov_11, ov_12, ov_13, ov_14, ov_15, ov_16, ov_17, ov_18, ov_19, ov_20, ov_21, ov_22, ov_23, ov_24, ov_25, ov_26, ov_27, ov_28, ov_29, ov_30, ov_31, ov_32, ov_33, ov_34, ov_35, ov_36, hT]
      refine c_numY h1 h2 ?_
      simp only [MS_4, MS_8, ov_1, ov_2, ov_3, ov_4, ov_5, ov_6, ov_7, ov_8, ov_10, ov_11, ov_12, ov_13, ov_14, ov_15, ov_16, ov_17, ov_18, ov_19, ov_20, ov_21, ov_22, ov_23, ov_24, ov_25, ov_26, ov_27, ov_28, ov_29, ov_30, ov_31, ov_32, ov_33, ov_34, ov_35, ov_36, hv, hc, hi, hb, hw, true_and, ← over_up oo34, over_thr]
    · simp only [MdI, B_X5_silent_14, P_X5_silent, pm_isTrain, pm_isFine, mm20, ar_4, ar_5, ar_6, ar_7, ar_8, ar_9, ar_10, ar_12, ar_13, ar_15, ar_16, ar_17, ar_19, ar_20, ar_21, ar_22, ar_23, ar_24, ar_25, ar_26, ar_27, ar_28, ar_29, ar_30, ar_31, ar_32, ar_33, ar_34, ar_35, ar_36, hT, h3, i10, hv, hc, if_true, if_false, vz_B hb, true_and]
      exact ⟨hw, fun _ => rfl, trivial⟩
  · refine ⟨1, 0, up2 t 0 0 (nI 1), res_bad hI (by omega), isB_0, ?_, ?_⟩
    · simp only [ClI, P_X4_silent, ms0, ov_1, ov_2, ov_3, ov_4, ov_5, ov_6, ov_7, ov_8, ov_10, ov_11, ov_12, ov_13, ov_14, ov_15, ov_16, ov_17, ov_18, ov_19, ov_20, ov_21, ov_22, ov_23, ov_24, ov_25, ov_26, ov_27, ov_28, ov_29, ov_30, ov_31, ov_32, ov_33, ov_34, ov_35, ov_36, hT]
      exact c_num h1 ⟨by omega, rfl, over_bad⟩
    · simp only [MdI, B_X5_silent_14, P_X5_silent, pm_isTrain, pm_isFine, mm20, ar_4, ar_5, ar_6, ar_7, ar_8, ar_9, ar_10, ar_12, ar_13, ar_15, ar_16, ar_17, ar_19, ar_20, ar_21, ar_22, ar_23, ar_24, ar_25, ar_26, ar_27, ar_28, ar_29, ar_30, ar_31, ar_32, ar_33, ar_34, ar_35, ar_36, hT, h2, i10, if_true, if_false, isB_0, true_and]
      exact ⟨fun z => by omega, rfl⟩
end OP
