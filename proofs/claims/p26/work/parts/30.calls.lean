/-! each call that goes well: what it answers, what it leaves -/
section SC
variable {t : TT} {n np nb nz nt tk : Nat} {px : String → TT → Prop}
theorem Inv.up {n' : Nat} (h : Inv n np nb nz nt tk t) (hn : n ≤ n') : Inv n' np nb nz nt tk t := by
  obtain ⟨hc, htk, hq, hT, hP, hb, hz, hZ⟩ := h
  exact ⟨hc, htk, hq, hT, fun p hp => (by obtain ⟨⟨d, d1, d2⟩, h2, h3⟩ := hP p hp; exact ⟨⟨d, by omega, d2⟩, h2, h3⟩), hb, hz, hZ⟩
theorem eq_num {M : Nat → Nat → Bool} {post : TT → Prop} {u : TT} {i m : Nat} (h : i < m) (hm : m ≤ 1000) : P_X4_askNumber M post px (nI i) (nI m) u = post u := by
  rw [pc_askNumber, if_neg (nI_pos (by omega)), if_pos (nI_lt h (by omega))]
theorem eq_rng {M : Nat → Nat → Bool} {post : TT → Prop} {u : TT} {a b c : Int32} (h : ¬ a < b) (h2 : a ≤ c) : P_X4_askRange M post px a b c u = post u := by
  rw [pc_askRange, if_neg h, if_pos h2]
theorem eq_trainIs {post : Int32 → TT → Prop} (hI : Inv n np nb nz nt tk t) {i : Nat} (hi : i < nt) {b : Int32} (b0 : ¬ b < 0) (b1 : b ≤ 10) : P_X4_trainIs (MS np nb nz nt) post px 0 (nI i) b (over t) = post (tellT t i b) (over t) := by
  obtain ⟨hT, h5, hP, h6, h1t⟩ := fac hI
  have hv := vp0 (n := i) (N := 5) (by omega) (by omega)
  have hc := cl0 (n := i) (by omega)
  have hs := (hI.2.2.2.1 i hi).2.2.1
  simp only [P_X4_trainIs, ms0, ov_1, ov_2, ov_3, ov_4, ov_5, ov_6, ov_7, ov_8, ov_10, ov_11, ov_12, ov_13, ov_14, ov_15, ov_16, ov_17, ov_18, ov_19, ov_20, ov_21, ov_22, ov_23, ov_24, ov_25, ov_26, ov_27, ov_28, ov_29, ov_30, ov_31, ov_32, ov_33, ov_34, ov_35, ov_36, hT, eq_num hi (show nt ≤ 1000 by omega), eq_rng b0 b1, pc_tellT hi h6 hs, MS_4, MS_8, hv, hc, hi, true_and]
theorem eq_platformIs {post : Int32 → TT → Prop} (hI : Inv n np nb nz nt tk t) {i : Nat} (hi : i < np) {b : Int32} (b0 : ¬ b < 0) (b1 : b ≤ 3) : P_X4_platformIs (MS np nb nz nt) post px 0 (nI i) b (over t) = post (tellP t i b) (over t) := by
  obtain ⟨hT, h5, hP, h6, h1t⟩ := fac hI
  have hv := vp0 (n := i) (N := 6) (by omega) (by omega)
  have hc := cl0 (n := i) (by omega)
  simp only [P_X4_platformIs, ms0, ov_1, ov_2, ov_3, ov_4, ov_5, ov_6, ov_7, ov_8, ov_10, ov_11, ov_12, ov_13, ov_14, ov_15, ov_16, ov_17, ov_18, ov_19, ov_20, ov_21, ov_22, ov_23, ov_24, ov_25, ov_26, ov_27, ov_28, ov_29, ov_30, ov_31, ov_32, ov_33, ov_34, ov_35, ov_36, hP, eq_num hi (show np ≤ 1000 by omega), eq_rng b0 b1, pc_tellP hi, MS_1, MS_5, hv, hc, hi, true_and]
theorem sc_placeAnew {post : Int32 → TT → Prop} (hI : Inv n np nb nz nt tk t) {i : Nat} (hi : i < nt) (h32 : t 32 i = nI 0) (h : post (sumR t i 0 tk) (over t)) : P_X4_placeAnew (MS np nb nz nt) post px 0 (nI i) (over t) := by
  obtain ⟨hT, h5, -, -, h1t⟩ := fac hI
  have htk := hI.2.1.2
  have hv := vp0 (n := i) (N := 5) (by omega) (by omega)
  have hc := cl0 (n := i) (by omega)
  simp only [P_X4_placeAnew, ms0, ov_1, ov_2, ov_3, ov_4, ov_5, ov_6, ov_7, ov_8, ov_10, ov_11, ov_12, ov_13, ov_14, ov_15, ov_16, ov_17, ov_18, ov_19, ov_20, ov_21, ov_22, ov_23, ov_24, ov_25, ov_26, ov_27, ov_28, ov_29, ov_30, ov_31, ov_32, ov_33, ov_34, ov_35, ov_36, hT, eq_num hi (show nt ≤ 1000 by omega), B_X2_playAgain_41, P_X2_playAgain, MS_4, MS_8, hv, hc, hi, h1t, h32, nI_1, true_and]
  exact pc_again hi h5 htk (Nat.zero_le _) h
theorem sc_works {post : Int32 → TT → Prop} (hI : Inv n np nb nz nt tk t) {i : Nat} (hi : i < nb) {b : Int32} (hb : isB b) (h : post (t 13 i) (over (up2 t 13 i b))) : P_X4_works (MS np nb nz nt) post px 0 (nI i) b (over t) := by
  have hB := hI.1.2.2.1
  have h12 := hI.1.2.2.2.1
  have hv := vp0 (n := i) (N := 12) (by omega) (by omega)
  have hc := cl0 (n := i) (by omega)
  have hw := hI.2.2.2.2.2.1 i hi
  simp only [P_X4_works, ms0, ov_1, ov_2, ov_3, ov_4, ov_5, ov_6, ov_7, ov_8, ov_10, ov_11, ov_12, ov_13, ov_14, ov_15, ov_16, ov_17, ov_18, ov_19, ov_20, ov_21, ov_22, ov_23, ov_24, ov_25, ov_26, ov_27, ov_28, ov_29, ov_30, ov_31, ov_32, ov_33, ov_34, ov_35, ov_36, hB, eq_num hi (show nb ≤ 1000 by omega), MS_2, MS_6, hv, hc, hi, hb, hw, true_and, over_up oo13]
  exact h
theorem sc_speed {post : Int32 → TT → Prop} {a : Int32} (a0 : ¬ a < 1) (a1 : a ≤ 20) (h : post (t 2 0) (over (up2 t 2 0 a))) : P_X4_speed (MS np nb nz nt) post px 0 a (over t) := by
  simp only [P_X4_speed, ms0, ov_1, ov_2, ov_3, ov_4, ov_5, ov_6, ov_7, ov_8, ov_10, ov_11, ov_12, ov_13, ov_14, ov_15, ov_16, ov_17, ov_18, ov_19, ov_20, ov_21, ov_22, ov_23, ov_24, ov_25, ov_26, ov_27, ov_28, ov_29, ov_30, ov_31, ov_32, ov_33, ov_34, ov_35, ov_36, eq_rng a0 a1, over_up oo2, true_and]
  exact h
theorem sc_slip {post : Int32 → TT → Prop} (hI : Inv n np nb nz nt tk t) {i : Nat} (hi : i < nt) {b : Int32} (b0 : ¬ b < -1) (b1 : b ≤ 1) (h : post (t 25 i) (over (up2 t 25 i b))) : P_X4_slip (MS np nb nz nt) post px 0 (nI i) b (over t) := by
  have hT := (fac hI).1
  have h5 := (fac hI).2.1
  have hv := vp0 (n := i) (N := 5) (by omega) (by omega)
  have hc := cl0 (n := i) (by omega)
  simp only [P_X4_slip, ms0, ov_1, ov_2, ov_3, ov_4, ov_5, ov_6, ov_7, ov_8, ov_10, ov_11, ov_12, ov_13, ov_14, ov_15, ov_16, ov_17, ov_18, ov_19, ov_20, ov_21, ov_22, ov_23, ov_24, ov_25, ov_26, ov_27, ov_28, ov_29, ov_30, ov_31, ov_32, ov_33, ov_34, ov_35, ov_36, hT, eq_num hi (show nt ≤ 1000 by omega), eq_rng b0 b1, MS_4, MS_8, hv, hc, hi, true_and, over_up oo25]
  exact h
theorem sc_silent {post : Int32 → TT → Prop} (hI : Inv n np nb nz nt tk t) {i : Nat} (hi : i < nt) {b : Int32} (hb : isB b) (h : post (t 34 i) (over (up2 t 34 i b))) : P_X4_silent (MS np nb nz nt) post px 0 (nI i) b (over t) := by
  have hT := (fac hI).1
  have h5 := (fac hI).2.1
  have hv := vp0 (n := i) (N := 5) (by omega) (by omega)
  have hc := cl0 (n := i) (by omega)
  have hw := (hI.2.2.2.1 i hi).2.2.2.2.2.2.2.2.1
  simp only [P_X4_silent, ms0, ov_1, ov_2, ov_3, ov_4, ov_5, ov_6, ov_7, ov_8, ov_10, ov_11, ov_12, ov_13, ov_14, ov_15, ov_16, ov_17, ov_18, ov_19, ov_20, ov_21, ov_22, ov_23, ov_24, ov_25, ov_26, ov_27, ov_28, ov_29, ov_30, ov_31, ov_32, ov_33, ov_34, ov_35, ov_36, hT, eq_num hi (show nt ≤ 1000 by omega), MS_4, MS_8, hv, hc, hi, hb, hw, true_and, over_up oo34]
  exact h
theorem sc_rate {post : Int32 → TT → Prop} (hI : Inv n np nb nz nt tk t) {i : Nat} (hi : i < np) {b : Int32} (b0 : ¬ b < 0) (b1 : b ≤ 9) (h : post (t 5 i) (over (up2 t 5 i b))) : P_X4_rate (MS np nb nz nt) post px 0 (nI i) b (over t) := by
  obtain ⟨hT, h5, hP, h6, h1t⟩ := fac hI
  have hv := vp0 (n := i) (N := 6) (by omega) (by omega)
  have hc := cl0 (n := i) (by omega)
  simp only [P_X4_rate, ms0, ov_1, ov_2, ov_3, ov_4, ov_5, ov_6, ov_7, ov_8, ov_10, ov_11, ov_12, ov_13, ov_14, ov_15, ov_16, ov_17, ov_18, ov_19, ov_20, ov_21, ov_22, ov_23, ov_24, ov_25, ov_26, ov_27, ov_28, ov_29, ov_30, ov_31, ov_32, ov_33, ov_34, ov_35, ov_36, hP, eq_num hi (show np ≤ 1000 by omega), eq_rng b0 b1, MS_1, MS_5, hv, hc, hi, true_and, over_up oo5]
  exact h
theorem sc_emergency {post : Int32 → TT → Prop} (hI : Inv n np nb nz nt tk t) {i : Nat} (hi : i < nt) (h0 : t 22 i ≤ 0 → post (t 33 i) (over t)) (h1 : ¬ t 22 i ≤ 0 → post 1 (over (up2 t 33 i 1))) : P_X4_emergency (MS np nb nz nt) post px 0 (nI i) (over t) := by
  have hT := (fac hI).1
  have h5 := (fac hI).2.1
  have hv := vp0 (n := i) (N := 5) (by omega) (by omega)
  have hc := cl0 (n := i) (by omega)
  have hw := (hI.2.2.2.1 i hi).2.2.2.2.2.2.2.1
  by_cases e : t 22 i ≤ 0
  · simp only [B_X4_emergency_27, P_X4_emergency, ms0, ov_1, ov_2, ov_3, ov_4, ov_5, ov_6, ov_7, ov_8, ov_10, ov_11, ov_12, ov_13, ov_14, ov_15, ov_16, ov_17, ov_18, ov_19, ov_20, ov_21, ov_22, ov_23, ov_24, ov_25, ov_26, ov_27, ov_28, ov_29, ov_30, ov_31, ov_32, ov_33, ov_34, ov_35, ov_36, hT, eq_num hi (show nt ≤ 1000 by omega), MS_4, MS_8, hv, hc, hi, e, hw, if_true, true_and]
    exact h0 e
  · simp only [B_X4_emergency_27, P_X4_emergency, ms0, ov_1, ov_2, ov_3, ov_4, ov_5, ov_6, ov_7, ov_8, ov_10, ov_11, ov_12, ov_13, ov_14, ov_15, ov_16, ov_17, ov_18, ov_19, ov_20, ov_21, ov_22, ov_23, ov_24, ov_25, ov_26, ov_27, ov_28, ov_29, ov_30, ov_31, ov_32, ov_33, ov_34, ov_35, ov_36, hT, eq_num hi (show nt ≤ 1000 by omega), MS_4, MS_8, hv, hc, hi, e, if_false, true_and, over_up oo33, isB_1, up2_same]
    exact h1 e
theorem sc_hold {post : Int32 → TT → Prop} (hI : Inv n np nb nz nt tk t) {i : Nat} (hi : i < nt) {b : Int32} (b0 : ¬ b < 1) (b1 : b ≤ 60) (e0 : t 22 i = 0) (h : post (mmin (t 29 i + b) 99) (over (up2 t 29 i (mmin (t 29 i + b) 99)))) : P_X4_hold (MS np nb nz nt) post px 0 (nI i) b (over t) := by
  have hT := (fac hI).1
  have h5 := (fac hI).2.1
  have hv := vp0 (n := i) (N := 5) (by omega) (by omega)
  have hc := cl0 (n := i) (by omega)
  simp only [B_X4_hold_34, P_X4_hold, ms0, ov_1, ov_2, ov_3, ov_4, ov_5, ov_6, ov_7, ov_8, ov_10, ov_11, ov_12, ov_13, ov_14, ov_15, ov_16, ov_17, ov_18, ov_19, ov_20, ov_21, ov_22, ov_23, ov_24, ov_25, ov_26, ov_27, ov_28, ov_29, ov_30, ov_31, ov_32, ov_33, ov_34, ov_35, ov_36, hT, eq_num hi (show nt ≤ 1000 by omega), eq_rng b0 b1, pc_askThat, MS_4, MS_8, hv, hc, hi, e0, i10, if_true, if_false, true_and, over_up oo29, up2_same]
  exact h
theorem sc_shut {post : TT → Prop} (hI : Inv n np nb nz nt tk t) {i : Nat} (hi : i < nt) (e : ¬ t 27 i = -1) (h : post (over (up2 t 27 i (-1)))) : P_X4_shut (MS np nb nz nt) post px 0 (nI i) (over t) := by
  have hT := (fac hI).1
  have h5 := (fac hI).2.1
  have hv := vp0 (n := i) (N := 5) (by omega) (by omega)
  have hc := cl0 (n := i) (by omega)
  simp only [P_X4_shut, ms0, ov_1, ov_2, ov_3, ov_4, ov_5, ov_6, ov_7, ov_8, ov_10, ov_11, ov_12, ov_13, ov_14, ov_15, ov_16, ov_17, ov_18, ov_19, ov_20, ov_21, ov_22, ov_23, ov_24, ov_25, ov_26, ov_27, ov_28, ov_29, ov_30, ov_31, ov_32, ov_33, ov_34, ov_35, ov_36, hT, eq_num hi (show nt ≤ 1000 by omega), pc_askThat, pc_hasOpenDoors hi, b2i_0, MS_4, MS_8, hv, hc, hi, e, decide_false, Bool.not_false, Bool.true_eq_false, if_false, true_and, over_up oo27]
  exact h
theorem sc_stop {post : TT → Prop} (hI : Inv n np nb nz nt tk t) {i p : Nat} (hi : i < nt) (hp : p < np) (e : t 34 i = 0) (d : t 27 i = -1) (q : ¬ t 4 p + 1 < t 21 i + way (t 22 i)) (h : post (over (up2 t 26 i (nI p)))) : P_X4_stop (MS np nb nz nt) post px 0 (nI i) (nI p) (over t) := by
  obtain ⟨hT, h5, hP, h6, -⟩ := fac hI
  have hv := vp0 (n := i) (N := 5) (by omega) (by omega)
  have hc := cl0 (n := i) (by omega)
  have hvp := vp0 (n := p) (N := 6) (by omega) (by omega)
  have hcp := cl0 (n := p) (by omega)
  have hp9 : p < 1000 := by omega
  simp only [P_X4_stop, B_X4_stop_63, B_X4_stop_64, ms0, ov_1, ov_2, ov_3, ov_4, ov_5, ov_6, ov_7, ov_8, ov_10, ov_11, ov_12, ov_13, ov_14, ov_15, ov_16, ov_17, ov_18, ov_19, ov_20, ov_21, ov_22, ov_23, ov_24, ov_25, ov_26, ov_27, ov_28, ov_29, ov_30, ov_31, ov_32, ov_33, ov_34, ov_35, ov_36, hT, hP, eq_num hi (show nt ≤ 1000 by omega), eq_num hp (show np ≤ 1000 by omega), keepsS, pc_askThat, pc_hasOpenDoors hi, pc_keeps hi, b2i_0, MS_1, MS_4, MS_5, MS_8, hv, hc, hvp, hcp, hi, hp, hp9, e, d, q, i10, decide_true, decide_false, Bool.not_true, Bool.not_false, Bool.true_eq_false, if_true, if_false, true_and, over_up oo26]
  exact h
theorem sc_open {post : Int32 → TT → Prop} (hI : Inv n np nb nz nt tk t) {i j : Nat} (hi : i < nt) (hj : j ≤ 120) (ha : atStopS t i = true) (d : t 27 i = -1) (h : ∀ d9 q9, d9 ≤ 15 → q9 ≤ 120 → post (nI d9) (over (up2 (up2 t 27 i (nI d9)) 28 i (nI q9)))) : P_X4_open (MS np nb nz nt) post px 0 (nI i) (nI j) (over t) := by
  obtain ⟨hT, h5, hP, h6, -⟩ := fac hI
  have hv := vp0 (n := i) (N := 5) (by omega) (by omega)
  have hc := cl0 (n := i) (by omega)
  obtain ⟨-, -, hs, -, -, ⟨q, q1, q2⟩, -⟩ := hI.2.2.2.1 i hi
  have hq : t 26 i ≠ -1 := fun z => by unfold atStopS at ha; rw [if_pos z] at ha; cases ha
  obtain ⟨p, p1, p2⟩ := hs.resolve_left hq
  have hcp := cl0 (n := p) (by omega)
  have hn1 := nI_m1 (n := p) (by omega)
  obtain ⟨d9, e1, e2⟩ := doors_rng ((t 30 i ||| t 10 p) ^^^ (-1))
  obtain ⟨o1, -⟩ := people_off (q := q) (j := j) (by omega) (by omega)
  have g1 : ¬ nI j < 0 := nI_pos (by omega)
  have g2 : nI j ≤ 120 := nI_le (a := j) (b := 120) hj (by omega)
  have h := h d9 (q - j) e1 (by omega)
  simp only [B_X4_open_41, B_X4_open_40, P_X4_open, ms0, ov_1, ov_2, ov_3, ov_4, ov_5, ov_6, ov_7, ov_8, ov_10, ov_11, ov_12, ov_13, ov_14, ov_15, ov_16, ov_17, ov_18, ov_19, ov_20, ov_21, ov_22, ov_23, ov_24, ov_25, ov_26, ov_27, ov_28, ov_29, ov_30, ov_31, ov_32, ov_33, ov_34, ov_35, ov_36, hT, eq_num hi (show nt ≤ 1000 by omega), eq_rng g1 g2, pc_askThat, pc_isAtStop hi hs h6, pc_hasOpenDoors hi, b2i_0, ha, d, p2, hn1, hcp, p1, B_X2_openDoors_19, P_X2_openDoors, MS_4, MS_5, MS_8, hv, hc, hi, i10, e2, q2, o1, decide_true, Bool.not_true, Bool.true_eq_false, not_false_eq_true, if_true, if_false, true_and, up_27_1, up_27_2, up_27_3, up_27_4, up_27_5, up_27_6, up_27_7, up_27_8, up_27_10, up_27_11, up_27_12, up_27_13, up_27_14, up_27_15, up_27_16, up_27_17, up_27_18, up_27_19, up_27_20, up_27_21, up_27_22, up_27_23, up_27_24, up_27_25, up_27_26, up_27_28, up_27_29, up_27_30, up_27_31, up_27_32, up_27_33, up_27_34, up_27_35, up_27_36, up_28_1, up_28_2, up_28_3, up_28_4, up_28_5, up_28_6, up_28_7, up_28_8, up_28_10, up_28_11, up_28_12, up_28_13, up_28_14, up_28_15, up_28_16, up_28_17, up_28_18, up_28_19, up_28_20, up_28_21, up_28_22, up_28_23, up_28_24, up_28_25, up_28_26, up_28_27, up_28_29, up_28_30, up_28_31, up_28_32, up_28_33, up_28_34, up_28_35, up_28_36, up2_same, over_up oo27, over_up oo28]
  exact h
theorem sc_depart {post : Int32 → TT → Prop} (hI : Inv n np nb nz nt tk t) (hn : n ≤ 600) {i : Nat} (hi : i < nt) (ha : atStopS t i = true) (hd1 : t 27 i = -1) (hd2 : t 29 i = 0) (h : ∀ p d w v, p < np → d ≤ n → post (nI p) (over (up2 (up2 (up2 (up2 t 9 p w) 8 p v) 7 p (nI d + 1)) 26 i (-1)))) : P_X4_depart (MS np nb nz nt) post px 0 (nI i) (over t) := by
  obtain ⟨hT, h5, hP, h6, h1t⟩ := fac hI
  have hv := vp0 (n := i) (N := 5) (by omega) (by omega)
  have hc := cl0 (n := i) (by omega)
  obtain ⟨-, -, hs, -, -, -, ⟨k, q1, q2⟩, -⟩ := hI.2.2.2.1 i hi
  have e : t 26 i ≠ -1 := fun z => by unfold atStopS at ha; rw [if_pos z] at ha; cases ha
  obtain ⟨p, p1, p2⟩ := hs.resolve_left e
  have hcp := cl0 (n := p) (by omega)
  have hn1 := nI_m1 (n := p) (by omega)
  obtain ⟨⟨d, d1, d2⟩, -⟩ := hI.2.2.2.2.1 p p1
  have h := h p d (nI tk - t 8 p) (nI tk) p1 d1
  simp only [P_X4_depart, B_X4_depart_31, ms0, ov_1, ov_2, ov_3, ov_4, ov_5, ov_6, ov_7, ov_8, ov_10, ov_11, ov_12, ov_13, ov_14, ov_15, ov_16, ov_17, ov_18, ov_19, ov_20, ov_21, ov_22, ov_23, ov_24, ov_25, ov_26, ov_27, ov_28, ov_29, ov_30, ov_31, ov_32, ov_33, ov_34, ov_35, ov_36, hT, eq_num hi (show nt ≤ 1000 by omega), pc_canDepart hi hs h6, hd1, hd2, ha, b2i_0, MS_4, MS_8, hv, hc, hi, p2, hn1, if_true, if_false, true_and, decide_true, Bool.and_true, Bool.true_eq_false, MS_5, hcp, p1, not_false_eq_true]
  have o40 : ∀ u : TT, over u 40 p = nI p := fun u => rfl
  have u7 : up2 (over t) 26 i (-1) 7 p = nI d := by rw [up2_ne (fun z => by omega), ov_7, d2]
  have u8 : up2 (over t) 26 i (-1) 8 p = t 8 p := by rw [up2_ne (fun z => by omega), ov_8]
  have u1 : up2 (over t) 26 i (-1) 1 0 = nI tk := by rw [up2_ne (fun z => by omega), ov_1, h1t]
  have K := dep_over (i := i) (v := nI tk) (w := nI tk - t 8 p) d2 (by omega)
  simp only [P_X1_countDeparture, B_X1_countDeparture_17, MS_5, p1, true_and, u7, u8, u1]
  by_cases d0 : d = 0
  · rw [if_pos d0] at K
    have : nI d ≤ 0 := by rw [d0]; exact Int32.le_refl 0
    simp only [this, if_true, u7, K, o40, true_and]
    exact h
  · rw [if_neg d0] at K
    have : ¬ nI d ≤ 0 := nI_nle (by omega) (by omega)
    have u9 : up2 (up2 (over t) 26 i (-1)) 9 p (nI tk - t 8 p) 7 p = nI d := by rw [up2_ne (fun z => by omega), u7]
    simp only [this, if_false, u9, K, o40, true_and]
    exact h
theorem sc_close {post : Int32 → TT → Prop} (hI : Inv n np nb nz nt tk t) {i : Nat} (hi : i < nz) {b : Int32} (hb : isB b) (ho : ¬ b = 0 → t 17 i = 0 → allB (okC t i) nt = true) (h : ∀ r, post r (over (dealR (up2 t 17 i b) nt nz nt))) : P_X4_close (MS np nb nz nt) post px 0 (nI i) b (over t) := by
  have hB : t 14 0 = nI nz := hI.1.2.2.2.2.1
  have h12 : nz ≤ 4 := hI.1.2.2.2.2.2.1
  have hv := vp0 (n := i) (N := 4) (by omega) (by omega)
  have hc := cl0 (n := i) (by omega)
  have hw := hI.2.2.2.2.2.2.1 i hi
  have I1 : Inv n np nb nz nt tk (up2 t 17 i b) := hI.set17 hi hb
  have o1 : up2 (over t) 17 i b = over (up2 t 17 i b) := over_up oo17s
  have F : B_X4_close_43 (MS np nb nz nt) post px 0 b i (t 17 i) 1 (over t) := by
    simp only [B_X4_close_43, pc_askThat, i10, if_false, ms0, MS_7, hi, hb, true_and]
    rw [o1]
    exact pc_dealLimits I1.1 ⟨hw, h _⟩
  simp only [P_X4_close, B_X4_close_38, ms0, ov_1, ov_2, ov_3, ov_4, ov_5, ov_6, ov_7, ov_8, ov_10, ov_11, ov_12, ov_13, ov_14, ov_15, ov_16, ov_17, ov_18, ov_19, ov_20, ov_21, ov_22, ov_23, ov_24, ov_25, ov_26, ov_27, ov_28, ov_29, ov_30, ov_31, ov_32, ov_33, ov_34, ov_35, ov_36, hB, eq_num hi (show nz ≤ 1000 by omega), MS_3, MS_7, hv, hc, hi, true_and]
  by_cases e : b = 0
  · simp only [e, if_true]
    rw [e] at F
    exact F
  · by_cases z : t 17 i = 0
    · simp only [e, z, if_true, if_false]
      refine pc_canBeClosed hi hI.1 ?_
      simp only [ho e z, b2i_0, if_false, Bool.true_eq_false]
      rw [z] at F
      exact F
    · simp only [e, z, if_false]
      exact F
theorem sc_pass {post : Int32 → TT → Prop} (hI : Inv n np nb nz nt tk t) {j : Nat} (j1 : 1 ≤ j) (j2 : j ≤ 99) (e : tk + j ≤ 999) (h : post (nI (tk + j)) (over (tickN np nb nz nt tk t j))) : P_X4_pass (MS np nb nz nt) post px 0 (nI j) (over t) := by
  have h1t := hI.2.1.1
  have IN := tickN_inv hI j e
  have e1 : ¬ (999 : Int32) < nI tk + nI j := by
    rw [nI_add]; exact nI_nlt (a := 999) (b := tk + j) (by omega) (by omega)
  have g1 : ¬ nI j < 1 := nI_nlt (a := j) (b := 1) (by omega) (by omega)
  have g2 : nI j ≤ 99 := nI_le (a := j) (b := 99) (by omega) (by omega)
  have L : ∀ q k, k + q = j → ∃ n9, L_X4_pass_29 (MS np nb nz nt) post px n9 0 (nI j) (nI k) (over (tickN np nb nz nt tk t k)) := by
    intro q
    induction q with
    | zero =>
      intro k hk
      have : k = j := by omega
      subst this
      refine ⟨1, ?_⟩
      simp only [L_X4_pass_29, ms0, ov_1, ov_2, ov_3, ov_4, ov_5, ov_6, ov_7, ov_8, ov_10, ov_11, ov_12, ov_13, ov_14, ov_15, ov_16, ov_17, ov_18, ov_19, ov_20, ov_21, ov_22, ov_23, ov_24, ov_25, ov_26, ov_27, ov_28, ov_29, ov_30, ov_31, ov_32, ov_33, ov_34, ov_35, ov_36, IN.2.1.1, nle_self, if_true]
      exact h
    | succ q ih =>
      intro k hk
      obtain ⟨n9, hn⟩ := ih (k + 1) (by omega)
      have hlt : ¬ nI j ≤ nI k := nI_ge (by omega) (by omega)
      refine ⟨n9 + 1, ?_⟩
      simp only [L_X4_pass_29, ms0, hlt, if_false, nI_1]
      exact pc_passOne (tickN_inv hI k (by omega)) (by omega) hn
  simp only [P_X4_pass, eq_rng g1 g2, B_X4_pass_24, pc_askThat, ms0, ov_1, ov_2, ov_3, ov_4, ov_5, ov_6, ov_7, ov_8, ov_10, ov_11, ov_12, ov_13, ov_14, ov_15, ov_16, ov_17, ov_18, ov_19, ov_20, ov_21, ov_22, ov_23, ov_24, ov_25, ov_26, ov_27, ov_28, ov_29, ov_30, ov_31, ov_32, ov_33, ov_34, ov_35, ov_36, h1t, e1, i10, if_false]
  exact L j 0 (by omega)
theorem sc_isSafe {post : Int32 → TT → Prop} (hI : Inv n np nb nz nt tk t) (hb : ∀ i, i < nt → bndS t i = true) (ha : ∀ i j, j < i → i < nt → apS t i j = true) (h : post 1 (over t)) : P_X4_isSafe (MS np nb nz nt) post px 0 (over t) := by
  obtain ⟨hT, h5, hP, h6, h1t⟩ := fac hI
  have LI : ∀ (k2 : Nat → Int32 → TT → Prop) i, i < nt → k2 0 (nI (i + 1)) (over t) → ∀ q j, j + q = i → ∃ n9, L_X4_isSafe_26 (MS np nb nz nt) post px k2 n9 0 (nI i) (nI j) (over t) := by
    intro k2 i hi hk2 q
    induction q with
    | zero =>
      intro j hj
      have : j = i := by omega
      subst this
      refine ⟨1, ?_⟩
      simp only [L_X4_isSafe_26, nle_self, if_true, nI_1]
      exact hk2
    | succ q ih =>
      intro j hj
      have hvi := vp0 (n := i) (N := 5) (by omega) (by omega)
      have hci := cl0 (n := i) (by omega)
      have hvj := vp0 (n := j) (N := 5) (by omega) (by omega)
      have hcj := cl0 (n := j) (by omega)
      have hjt : j < nt := by omega
      have hlt : ¬ nI i ≤ nI j := nI_ge (by omega) (by omega)
      have ha9 := ha i j (by omega) hi
      obtain ⟨n9, hn⟩ := ih (j + 1) (by omega)
      refine ⟨n9 + 1, ?_⟩
      simp only [L_X4_isSafe_26, hlt, if_false, ms0, MS_4, MS_8, hvi, hci, hvj, hcj, hi, hjt, true_and, pc_mayCover hi, ov_1, ov_2, ov_3, ov_4, ov_5, ov_6, ov_7, ov_8, ov_10, ov_11, ov_12, ov_13, ov_14, ov_15, ov_16, ov_17, ov_18, ov_19, ov_20, ov_21, ov_22, ov_23, ov_24, ov_25, ov_26, ov_27, ov_28, ov_29, ov_30, ov_31, ov_32, ov_33, ov_34, ov_35, ov_36, b2i_0, nI_1]
      simp only [apS, i_nle, decide_not, Bool.not_not] at ha9
      simp at ha9
      have hm : (!decide (t 21 j < t 20 i - 100) && !decide (t 21 i < t 20 j - 100)) = false := by
        rcases ha9 with ha9 | ha9 <;> simp [ha9]
      simp only [hm, if_true]
      exact hn
  have LO : ∀ q i, i + q = nt → ∃ n9, L_X4_isSafe_2 (MS np nb nz nt) post px n9 0 (nI i) (over t) := by
    intro q
    induction q with
    | zero =>
      intro i hi
      have : i = nt := by omega
      subst this
      refine ⟨1, ?_⟩
      simp only [L_X4_isSafe_2, ms0, ov_1, ov_2, ov_3, ov_4, ov_5, ov_6, ov_7, ov_8, ov_10, ov_11, ov_12, ov_13, ov_14, ov_15, ov_16, ov_17, ov_18, ov_19, ov_20, ov_21, ov_22, ov_23, ov_24, ov_25, ov_26, ov_27, ov_28, ov_29, ov_30, ov_31, ov_32, ov_33, ov_34, ov_35, ov_36, hT, nle_self, if_true, isB_1, true_and]
      exact h
    | succ q ih =>
      intro i hi
      have hit : i < nt := by omega
      have hvi := vp0 (n := i) (N := 5) (by omega) (by omega)
      have hci := cl0 (n := i) (by omega)
      have hlt : ¬ nI nt ≤ nI i := nI_ge (by omega) (by omega)
      have hbn := hb i hit
      unfold bndS at hbn
      obtain ⟨n9, hn⟩ := ih (i + 1) (by omega)
      refine ⟨n9 + 1, ?_⟩
      simp only [L_X4_isSafe_2, ms0, MS_4, MS_8, ov_1, ov_2, ov_3, ov_4, ov_5, ov_6, ov_7, ov_8, ov_10, ov_11, ov_12, ov_13, ov_14, ov_15, ov_16, ov_17, ov_18, ov_19, ov_20, ov_21, ov_22, ov_23, ov_24, ov_25, ov_26, ov_27, ov_28, ov_29, ov_30, ov_31, ov_32, ov_33, ov_34, ov_35, ov_36, hT, hlt, hvi, hci, hit, if_false, true_and, pc_isInItsBounds hit, b2i_0, hbn, Bool.true_eq_false]
      exact LI (L_X4_isSafe_2 (MS np nb nz nt) post px n9) i hit hn i 0 (by omega)
  exact LO nt 0 (by omega)
end SC
