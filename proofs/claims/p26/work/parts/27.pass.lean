/-! a tick as a whole: both sides -/
def tickS (np nb nz nt tk : Nat) (t : TT) : TT := fR boardU (fR waitU (fR heldU (fR (goU (tk + 1) nb) (fR spU (dealR (fR repU (up2 t 1 0 (nI (tk + 1))) nt) nt nz nt) nt) nt) nt) np) nt
section TK
variable {px : String → TT → Prop} {t : TT} {n np nb nz nt tk : Nat}
theorem TrI.mono {tk' i : Nat} (h : TrI t np tk i) (hk : tk ≤ tk') : TrI t np tk' i := by
  obtain ⟨h1, h2, h3, h4, h5, h6, h7, h8, h9, h10, k, k1, k2⟩ := h
  exact ⟨h1, h2, h3, h4, h5, h6, h7, h8, h9, h10, k, by omega, k2⟩
theorem Inv.tick (h : Inv n np nb nz nt tk t) (hk : tk + 1 ≤ 999) : Inv n np nb nz nt (tk + 1) (up2 t 1 0 (nI (tk + 1))) := by
  obtain ⟨hc, htk, hq, hT, hP, hb, hz, z1, z2, z3, z4, z5⟩ := h
  refine ⟨hc, ⟨up2_same _ _ _ _, hk⟩, hq, fun i hi => ?_, hP, hb, hz, fun k i h1 h2 h3 => ?_, z2, fun k i h1 h2 h3 => ?_, z4, z5⟩
  · have H := (hT i hi).mono (show tk ≤ tk + 1 by omega)
    exact H
  · rw [up2_ne (fun z => by omega)]; exact z1 k i h1 h2 h3
  · rw [up2_ne (fun z => by omega)]; exact z3 k i h1 h2 h3
theorem fRI {f : TT → Nat → TT} {N : Nat} (hI : Inv n np nb nz nt tk t) (hf : ∀ u k, k < N → Inv n np nb nz nt tk u → Inv n np nb nz nt tk (f u k)) : Inv n np nb nz nt tk (fR f t N) := fR_I hI hf N (Nat.le_refl _)
theorem tickS_inv (h : Inv n np nb nz nt tk t) (hk : tk + 1 ≤ 999) : Inv n np nb nz nt (tk + 1) (tickS np nb nz nt tk t) := by
  unfold tickS
  refine fRI ?_ (fun u k h1 h2 => boardU_inv h1 h2)
  refine fRI ?_ (fun u k h1 h2 => waitU_inv h1 h2)
  refine fRI ?_ (fun u k h1 h2 => heldU_inv h1 h2)
  refine fRI ?_ (fun u k h1 h2 => goU_inv h1 h2)
  refine fRI ?_ (fun u k h1 h2 => spU_inv h2 h1)
  refine Inv.deal9 ?_ nt (Nat.le_refl _)
  exact fRI (h.tick hk) (fun u k h1 h2 => repU_inv h1 h2)
theorem fac (h : Inv n np nb nz nt tk t) : t 18 0 = nI nt ∧ nt ≤ 5 ∧ t 3 0 = nI np ∧ np ≤ 6 ∧ t 1 0 = nI tk := ⟨h.1.2.2.2.2.2.2.1, h.1.2.2.2.2.2.2.2, h.1.1, h.1.2.1, h.2.1.1⟩
theorem pc_passOne {post : TT → Prop} (hI : Inv n np nb nz nt tk t) (hk9 : tk + 1 ≤ 999) (h : post (over (tickS np nb nz nt tk t))) : P_X4_passOne (MS np nb nz nt) post px 0 (over t) := by
  have h5 := (fac hI).2.1
  have h6 := (fac hI).2.2.2.1
  simp only [P_X4_passOne, ms0, ov_1, ov_2, ov_3, ov_4, ov_5, ov_6, ov_7, ov_8, ov_10, ov_11, ov_12, ov_13, ov_14, ov_15, ov_16, ov_17, ov_18, ov_19, ov_20, ov_21, ov_22, ov_23, ov_24, ov_25, ov_26, ov_27, ov_28, ov_29, ov_30, ov_31, ov_32, ov_33, ov_34, ov_35, ov_36, (fac hI).2.2.2.2, nI_1, over_up ov1]
  have I0 := hI.tick hk9
  have I1 := fRI (N := nt) I0 (fun u k h1 h2 => repU_inv h1 h2)
  have I2 := I1.deal9 nt (Nat.le_refl _)
  have I3 := fRI (N := nt) I2 (fun u k h1 h2 => spU_inv h2 h1)
  have I4 := fRI (N := nt) I3 (fun u k h1 h2 => goU_inv h1 h2)
  have I5 := fRI (N := nt) I4 (fun u k h1 h2 => heldU_inv h1 h2)
  have I6 := fRI (N := np) I5 (fun u k h1 h2 => waitU_inv h1 h2)
  simp only [P_X4_takeReports]
  refine loopG (L := fun n a u => L_X4_takeReports_2 (MS np nb nz nt) _ px n 0 a (over u)) (f := repU) (I := Inv n np nb nz nt (tk + 1)) (E := fun u => P_X4_dealLimits (MS np nb nz nt) (fun t2 => ∃ n9, L_X4_passOne_20 (MS np nb nz nt) (fun t => post t) px n9 0 0 t2) px 0 (over u)) (N := nt) I0 (fun u k h1 h2 => repU_inv h1 h2) (fun u hu he => ⟨1, ?_⟩) (fun u k m hk hu hn => ?_) ?_
  · simp only [L_X4_takeReports_2, ms0, ov_1, ov_2, ov_3, ov_4, ov_5, ov_6, ov_7, ov_8, ov_10, ov_11, ov_12, ov_13, ov_14, ov_15, ov_16, ov_17, ov_18, ov_19, ov_20, ov_21, ov_22, ov_23, ov_24, ov_25, ov_26, ov_27, ov_28, ov_29, ov_30, ov_31, ov_32, ov_33, ov_34, ov_35, ov_36, (fac hu).1, nle_self, if_true]
    exact he
  · have hvk := vp0 (n := k) (N := 5) (by omega) (by omega)
    have hck := cl0 (n := k) (by omega)
    have hlt : ¬ nI nt ≤ nI k := nI_ge (by omega) (by omega)
    simp only [L_X4_takeReports_2, B_X4_takeReports_32, ms0, MS_4, MS_8, ov_1, ov_2, ov_3, ov_4, ov_5, ov_6, ov_7, ov_8, ov_10, ov_11, ov_12, ov_13, ov_14, ov_15, ov_16, ov_17, ov_18, ov_19, ov_20, ov_21, ov_22, ov_23, ov_24, ov_25, ov_26, ov_27, ov_28, ov_29, ov_30, ov_31, ov_32, ov_33, ov_34, ov_35, ov_36, (fac hu).1, hlt, hvk, hck, hk, if_false, true_and, nI_1, over_up oo24]
    unfold repU at hn
    by_cases e : u 34 k = 0 <;> simp only [e, if_true, if_false] at hn ⊢ <;> exact hn
  refine pc_dealLimits I1.1 ?_
  refine loopG (L := fun n a u => L_X4_passOne_20 (MS np nb nz nt) post px n 0 a (over u)) (f := spU) (I := Inv n np nb nz nt (tk + 1)) (E := fun u => ∃ n9, L_X4_passOne_49 (MS np nb nz nt) post px n9 0 0 (over u)) (N := nt) I2 (fun u k h1 h2 => spU_inv h2 h1) (fun u hu he => ⟨1, ?_⟩) (fun u k m hk hu hn => ?_) ?_
  · simp only [L_X4_passOne_20, ms0, ov_1, ov_2, ov_3, ov_4, ov_5, ov_6, ov_7, ov_8, ov_10, ov_11, ov_12, ov_13, ov_14, ov_15, ov_16, ov_17, ov_18, ov_19, ov_20, ov_21, ov_22, ov_23, ov_24, ov_25, ov_26, ov_27, ov_28, ov_29, ov_30, ov_31, ov_32, ov_33, ov_34, ov_35, ov_36, (fac hu).1, nle_self, if_true]
    exact he
  · have hvk := vp0 (n := k) (N := 5) (by omega) (by omega)
    have hck := cl0 (n := k) (by omega)
    have hlt : ¬ nI nt ≤ nI k := nI_ge (by omega) (by omega)
    simp only [L_X4_passOne_20, ms0, MS_4, MS_8, ov_1, ov_2, ov_3, ov_4, ov_5, ov_6, ov_7, ov_8, ov_10, ov_11, ov_12, ov_13, ov_14, ov_15, ov_16, ov_17, ov_18, ov_19, ov_20, ov_21, ov_22, ov_23, ov_24, ov_25, ov_26, ov_27, ov_28, ov_29, ov_30, ov_31, ov_32, ov_33, ov_34, ov_35, ov_36, (fac hu).1, hlt, hvk, hck, hk, if_false, true_and, nI_1]
    exact pc_findSpeed hu hk hn
  refine loopG (L := fun n a u => L_X4_passOne_49 (MS np nb nz nt) post px n 0 a (over u)) (f := goU (tk + 1) nb) (I := Inv n np nb nz nt (tk + 1)) (E := fun u => P_X4_countHolding (MS np nb nz nt) (fun t4 => P_X4_letPeopleCome (MS np nb nz nt) (fun t5 => P_X4_letPeopleBoard (MS np nb nz nt) (fun t6 => post t6) px 0 t5) px 0 t4) px 0 (over u)) (N := nt) I3 (fun u k h1 h2 => goU_inv h1 h2) (fun u hu he => ⟨1, ?_⟩) (fun u k m hk hu hn => ?_) ?_
  · simp only [L_X4_passOne_49, ms0, ov_1, ov_2, ov_3, ov_4, ov_5, ov_6, ov_7, ov_8, ov_10, ov_11, ov_12, ov_13, ov_14, ov_15, ov_16, ov_17, ov_18, ov_19, ov_20, ov_21, ov_22, ov_23, ov_24, ov_25, ov_26, ov_27, ov_28, ov_29, ov_30, ov_31, ov_32, ov_33, ov_34, ov_35, ov_36, (fac hu).1, nle_self, if_true]
    exact he
  · have hvk := vp0 (n := k) (N := 5) (by omega) (by omega)
    have hck := cl0 (n := k) (by omega)
    have hlt : ¬ nI nt ≤ nI k := nI_ge (by omega) (by omega)
    simp only [L_X4_passOne_49, ms0, MS_4, MS_8, ov_1, ov_2, ov_3, ov_4, ov_5, ov_6, ov_7, ov_8, ov_10, ov_11, ov_12, ov_13, ov_14, ov_15, ov_16, ov_17, ov_18, ov_19, ov_20, ov_21, ov_22, ov_23, ov_24, ov_25, ov_26, ov_27, ov_28, ov_29, ov_30, ov_31, ov_32, ov_33, ov_34, ov_35, ov_36, (fac hu).1, hlt, hvk, hck, hk, if_false, true_and, nI_1]
    exact pc_move hu hk hn
  simp only [P_X4_countHolding]
  refine loopG (L := fun n a u => L_X4_countHolding_2 (MS np nb nz nt) _ px n 0 a (over u)) (f := heldU) (I := Inv n np nb nz nt (tk + 1)) (E := fun u => P_X4_letPeopleCome (MS np nb nz nt) (fun t5 => P_X4_letPeopleBoard (MS np nb nz nt) (fun t6 => post t6) px 0 t5) px 0 (over u)) (N := nt) I4 (fun u k h1 h2 => heldU_inv h1 h2) (fun u hu he => ⟨1, ?_⟩) (fun u k m hk hu hn => ?_) ?_
  · simp only [L_X4_countHolding_2, ms0, ov_1, ov_2, ov_3, ov_4, ov_5, ov_6, ov_7, ov_8, ov_10, ov_11, ov_12, ov_13, ov_14, ov_15, ov_16, ov_17, ov_18, ov_19, ov_20, ov_21, ov_22, ov_23, ov_24, ov_25, ov_26, ov_27, ov_28, ov_29, ov_30, ov_31, ov_32, ov_33, ov_34, ov_35, ov_36, (fac hu).1, nle_self, if_true]
    exact he
  · have hvk := vp0 (n := k) (N := 5) (by omega) (by omega)
    have hck := cl0 (n := k) (by omega)
    have hlt : ¬ nI nt ≤ nI k := nI_ge (by omega) (by omega)
    obtain ⟨w, w1, w2⟩ := (hu.2.2.2.1 k hk).2.2.2.2.2.2.1
    simp only [L_X4_countHolding_2, ms0, MS_4, MS_8, ov_1, ov_2, ov_3, ov_4, ov_5, ov_6, ov_7, ov_8, ov_10, ov_11, ov_12, ov_13, ov_14, ov_15, ov_16, ov_17, ov_18, ov_19, ov_20, ov_21, ov_22, ov_23, ov_24, ov_25, ov_26, ov_27, ov_28, ov_29, ov_30, ov_31, ov_32, ov_33, ov_34, ov_35, ov_36, (fac hu).1, hlt, hvk, hck, hk, if_false, true_and, nI_1, over_up oo29]
    unfold heldU at hn
    rw [w2] at hn ⊢
    rw [held_dec2 w (by omega)]
    exact hn
  simp only [P_X4_letPeopleCome]
  refine loopG (L := fun n a u => L_X4_letPeopleCome_2 (MS np nb nz nt) _ px n 0 a (over u)) (f := waitU) (I := Inv n np nb nz nt (tk + 1)) (E := fun u => P_X4_letPeopleBoard (MS np nb nz nt) (fun t6 => post t6) px 0 (over u)) (N := np) I5 (fun u k h1 h2 => waitU_inv h1 h2) (fun u hu he => ⟨1, ?_⟩) (fun u k m hk hu hn => ?_) ?_
  · simp only [L_X4_letPeopleCome_2, ms0, ov_1, ov_2, ov_3, ov_4, ov_5, ov_6, ov_7, ov_8, ov_10, ov_11, ov_12, ov_13, ov_14, ov_15, ov_16, ov_17, ov_18, ov_19, ov_20, ov_21, ov_22, ov_23, ov_24, ov_25, ov_26, ov_27, ov_28, ov_29, ov_30, ov_31, ov_32, ov_33, ov_34, ov_35, ov_36, (fac hu).2.2.1, nle_self, if_true]
    exact he
  · have hvk := vp0 (n := k) (N := 6) (by omega) (by omega)
    have hck := cl0 (n := k) (by omega)
    have hlt : ¬ nI np ≤ nI k := nI_ge (by omega) (by omega)
    simp only [L_X4_letPeopleCome_2, ms0, MS_1, MS_5, ov_1, ov_2, ov_3, ov_4, ov_5, ov_6, ov_7, ov_8, ov_10, ov_11, ov_12, ov_13, ov_14, ov_15, ov_16, ov_17, ov_18, ov_19, ov_20, ov_21, ov_22, ov_23, ov_24, ov_25, ov_26, ov_27, ov_28, ov_29, ov_30, ov_31, ov_32, ov_33, ov_34, ov_35, ov_36, (fac hu).2.2.1, hlt, hvk, hck, hk, if_false, true_and, nI_1, over_up oo6]
    exact hn
  simp only [P_X4_letPeopleBoard]
  refine loopG (L := fun n a u => L_X4_letPeopleBoard_2 (MS np nb nz nt) _ px n 0 a (over u)) (f := boardU) (I := Inv n np nb nz nt (tk + 1)) (E := fun u => post (over u)) (N := nt) I6 (fun u k h1 h2 => boardU_inv h1 h2) (fun u hu he => ⟨1, ?_⟩) (fun u k m hk hu hn => ?_) ?_
  · simp only [L_X4_letPeopleBoard_2, ms0, ov_1, ov_2, ov_3, ov_4, ov_5, ov_6, ov_7, ov_8, ov_10, ov_11, ov_12, ov_13, ov_14, ov_15, ov_16, ov_17, ov_18, ov_19, ov_20, ov_21, ov_22, ov_23, ov_24, ov_25, ov_26, ov_27, ov_28, ov_29, ov_30, ov_31, ov_32, ov_33, ov_34, ov_35, ov_36, (fac hu).1, nle_self, if_true]
    exact he
  · have hvk := vp0 (n := k) (N := 5) (by omega) (by omega)
    have hck := cl0 (n := k) (by omega)
    have hlt : ¬ nI nt ≤ nI k := nI_ge (by omega) (by omega)
    simp only [L_X4_letPeopleBoard_2, ms0, MS_4, MS_8, ov_1, ov_2, ov_3, ov_4, ov_5, ov_6, ov_7, ov_8, ov_10, ov_11, ov_12, ov_13, ov_14, ov_15, ov_16, ov_17, ov_18, ov_19, ov_20, ov_21, ov_22, ov_23, ov_24, ov_25, ov_26, ov_27, ov_28, ov_29, ov_30, ov_31, ov_32, ov_33, ov_34, ov_35, ov_36, (fac hu).1, hlt, hvk, hck, hk, if_false, true_and, nI_1]
    exact pc_takePeople hu hk hn
  exact h
end TK
