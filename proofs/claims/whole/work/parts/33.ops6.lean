/-! the calls, on both sides: pass, isSafe; the reference's side of platform, beacon, zone, train -/
def tickN (np nb nz nt tk : Nat) (t : TT) : Nat → TT
  | 0 => t
  | k + 1 => tickS np nb nz nt (tk + k) (tickN np nb nz nt tk t k)
def apS (t : TT) (i j : Nat) : Bool := decide (t 21 i < t 20 j - 100) || !decide (t 20 i - 100 ≤ t 21 j)
def bndS (t : TT) (i : Nat) : Bool := !decide (t 19 i < t 20 i) && !decide (t 21 i < t 19 i) && !decide (t 23 i < t 21 i)
def safI (t : TT) (i : Nat) : Bool := bndS t i && allB (apS t i) i
section OP6
variable {t : TT} {n np nb nz nt tk : Nat}
theorem fR_0 {f : TT → Nat → TT} (hf : ∀ u k, f u k 0 0 = u 0 0) : ∀ k, fR f t k 0 0 = t 0 0
  | 0 => rfl
  | k + 1 => by
    show f (fR f t k) k 0 0 = t 0 0
    rw [hf, fR_0 hf k]
theorem tickS_0 : tickS np nb nz nt tk t 0 0 = t 0 0 := by
  unfold tickS
  rw [fR_0 (fun u k => ?_), fR_0 (fun u k => ?_), fR_0 (fun u k => ?_), fR_0 (fun u k => ?_), fR_0 (fun u k => ?_), dealR_ne (by decide), fR_0 (fun u k => ?_)]
  · rfl
  · unfold repU; split <;> rfl
  · rfl
  · unfold goU; split <;> rfl
  · rfl
  · rfl
  · unfold boardU; split <;> rfl
theorem tickN_inv (h : Inv n np nb nz nt tk t) : ∀ k, tk + k ≤ 999 → Inv n np nb nz nt (tk + k) (tickN np nb nz nt tk t k)
  | 0, _ => h
  | k + 1, hk => tickS_inv (tickN_inv h k (by omega)) (by omega)
theorem op_pass (hI : Inv n np nb nz nt tk t) (a : Int32) : ∃ code r s' tk', Res n np nb nz nt tk' code s' ∧ ClI [IAE9, ISE9] code r (over s') (fun post px => P_X4_pass (MS np nb nz nt) post px 0 a (over t)) ∧ MdI code r s' (fun post px => P_X5_pass MM post px 0 a t) := by
  have h1t := hI.2.1.1
  rcases rng_cases a 1 99 with ⟨g1, g2, g3⟩ | ⟨g1, g2⟩
  · obtain ⟨j, j1, j2, j3⟩ := nI_btw (lo := 1) (hi := 99) g1 g2 (by omega) (by omega)
    subst j3
    by_cases e : tk + j ≤ 999
    · have I1 : Inv (n + 1) np nb nz nt tk (up2 t 0 0 0) := hI.thr
      have IN := tickN_inv I1 j e
      have e1 : ¬ (999 : Int32) < nI tk + nI j := by
        rw [nI_add]; exact nI_nlt (a := 999) (b := tk + j) (by omega) (by omega)
      have e2 : nI tk + nI j ≤ 999 := by
        rw [nI_add]; exact nI_le (a := tk + j) (b := 999) (by omega) (by omega)
      have thr9 : ∀ k, tickN np nb nz nt tk (up2 t 0 0 0) k 0 0 = 0 := fun k => by
        induction k with
        | zero => rfl
        | succ k ih =>
          exact tickS_0.trans ih
      refine ⟨0, nI (tk + j), tickN np nb nz nt tk (up2 t 0 0 0) j, tk + j, ⟨by omega, thr9 j, IN⟩, ?_, ?_⟩
      · have L : ∀ (post : Int32 → TT → Prop) (px : String → TT → Prop), post (nI (tk + j)) (over (tickN np nb nz nt tk (up2 t 0 0 0) j)) → ∀ q k, k + q = j → ∃ n9, L_X4_pass_29 (MS np nb nz nt) post px n9 0 (nI j) (nI k) (over (tickN np nb nz nt tk (up2 t 0 0 0) k)) := by
          intro post px h q
          induction q with
          | zero =>
            intro k hk
            have : k = j := by omega
            subst this
            refine ⟨1, ?_⟩
            simp only [L_X4_pass_29, ms0, ov_1, ov_2, ov_3, ov_4, ov_5, ov_6, ov_7, ov_8, ov_10, ov_11, ov_12, ov_13, ov_14, ov_15, ov_16, ov_17, ov_18, ov_19, ov_20, ov_21, ov_22, ov_23, ov_24, ov_25, ov_26, ov_27, ov_28, ov_29, ov_30, ov_31, ov_32, ov_33, ov_34, ov_35, ov_36, IN.2.1.1, nle_self, if_true]
            exact h
          | succ q ih =>
            intro k hk
            obtain ⟨n9, hn⟩ := ih (k + 1) (by omega)
            have hlt : ¬ nI j ≤ nI k := nI_ge (by omega) (by omega)
            refine ⟨n9 + 1, ?_⟩
            simp only [L_X4_pass_29, ms0, hlt, if_false, nI_1]
            exact pc_passOne (tickN_inv I1 k (by omega)) (by omega) hn
        simp only [ClI, P_X4_pass]
        refine c_rngY g1 g2 ?_
        simp only [B_X4_pass_24, pc_askThat, ms0, ov_1, ov_2, ov_3, ov_4, ov_5, ov_6, ov_7, ov_8, ov_10, ov_11, ov_12, ov_13, ov_14, ov_15, ov_16, ov_17, ov_18, ov_19, ov_20, ov_21, ov_22, ov_23, ov_24, ov_25, ov_26, ov_27, ov_28, ov_29, ov_30, ov_31, ov_32, ov_33, ov_34, ov_35, ov_36, h1t, e1, i10, if_false]
        have := L (fun r' t' => True ∧ r' = nI (tk + j) ∧ t' = over (tickN np nb nz nt tk (up2 t 0 0 0) j)) (fun E t' => (0 : Nat) ≠ 0 ∧ [IAE9, ISE9][0 - 1]? = some E ∧ t' = over (tickN np nb nz nt tk (up2 t 0 0 0) j)) ⟨trivial, rfl, rfl⟩ j 0 (by omega)
        rw [show tickN np nb nz nt tk (up2 t 0 0 0) 0 = up2 t 0 0 0 from rfl, over_thr] at this
        exact this
      · have L : ∀ (post : Int32 → TT → Prop) (px : String → TT → Prop), post (nI (tk + j)) (tickN np nb nz nt tk (up2 t 0 0 0) j) → ∀ q k, k + q = j → ∃ n9, L_X5_pass_42 MM post px n9 0 (nI j) (nI k) (tickN np nb nz nt tk (up2 t 0 0 0) k) := by
          intro post px h q
          induction q with
          | zero =>
            intro k hk
            have : k = j := by omega
            subst this
            refine ⟨1, ?_⟩
            simp only [L_X5_pass_42, mm20, IN.2.1.1, nle_self, if_true]
            exact h
          | succ q ih =>
            intro k hk
            obtain ⟨n9, hn⟩ := ih (k + 1) (by omega)
            have hlt : ¬ nI j ≤ nI k := nI_ge (by omega) (by omega)
            refine ⟨n9 + 1, ?_⟩
            simp only [L_X5_pass_42, mm20, hlt, if_false, nI_1]
            exact pm_oneTick (tickN_inv I1 k (by omega)) (by omega) hn
        simp only [MdI, P_X5_pass, pm_in, g3, i10, if_false, mm20, h1t, e2, if_true, B_X5_pass_32, pm_isFine]
        exact L (fun r' t' => (True → r' = nI (tk + j)) ∧ t' = tickN np nb nz nt tk (up2 t 0 0 0) j) (fun _ _ => False) ⟨fun _ => rfl, rfl⟩ j 0 (by omega)
    · have e1 : (999 : Int32) < nI tk + nI j := by
        rw [nI_add]; exact nI_lt (a := 999) (b := tk + j) (by omega) (by have := hI.2.1.2; omega)
      have e2 : ¬ nI tk + nI j ≤ 999 := by
        rw [nI_add]; exact nI_ge (a := 999) (b := tk + j) (by omega) (by have := hI.2.1.2; omega)
      refine ⟨2, 0, up2 t 0 0 (nI 2), tk, res_bad hI (by omega), ?_, ?_⟩
      · simp only [ClI, P_X4_pass]
        refine c_rngY g1 g2 ?_
        simp only [B_X4_pass_24, pc_askThat, ms0, ov_1, ov_2, ov_3, ov_4, ov_5, ov_6, ov_7, ov_8, ov_10, ov_11, ov_12, ov_13, ov_14, ov_15, ov_16, ov_17, ov_18, ov_19, ov_20, ov_21, ov_22, ov_23, ov_24, ov_25, ov_26, ov_27, ov_28, ov_29, ov_30, ov_31, ov_32, ov_33, ov_34, ov_35, ov_36, h1t, e1, if_true]
        exact ⟨by omega, rfl, over_bad⟩
      · simp only [MdI, P_X5_pass, pm_in, g3, i10, i20, if_false, mm20, h1t, e2, B_X5_pass_32, pm_isFine, if_true]
        exact ⟨fun z => by omega, rfl⟩
  · refine ⟨1, 0, up2 t 0 0 (nI 1), tk, res_bad hI (by omega), ?_, ?_⟩
    · simp only [ClI, P_X4_pass]
      exact c_rng g1 ⟨by omega, rfl, over_bad⟩
    · simp only [MdI, P_X5_pass, pm_in, g2, i10, mm20, B_X5_pass_32, pm_isFine, if_true, if_false]
      exact ⟨fun z => by omega, rfl⟩
theorem op_isSafe (hI : Inv n np nb nz nt tk t) : ∃ r s', Res n np nb nz nt tk 0 s' ∧ isB r ∧ ClI [] 0 r (over s') (fun post px => P_X4_isSafe (MS np nb nz nt) post px 0 (over t)) ∧ MdI 0 r s' (fun post px => P_X5_isSafe MM post px 0 t) := by
  obtain ⟨hT, h5, hP, h6, h1t⟩ := fac hI
  refine ⟨b2i (allB (safI t) nt), up2 t 0 0 0, ⟨by omega, rfl, hI.thr⟩, b2i_B _, ?_, ?_⟩
  · have L : ∀ (post : Int32 → TT → Prop) (px : String → TT → Prop), post (b2i (allB (safI t) nt)) (over t) → P_X4_isSafe (MS np nb nz nt) post px 0 (over t) := by
      intro post px h
      have LI : ∀ (k2 : Nat → Int32 → TT → Prop) i, i < nt → (allB (apS t i) i = true → k2 0 (nI (i + 1)) (over t)) → (allB (apS t i) i = false → post 0 (over t)) → ∀ q j, j + q = i → allB (apS t i) j = true → ∃ n9, L_X4_isSafe_26 (MS np nb nz nt) post px k2 n9 0 (nI i) (nI j) (over t) := by
        intro k2 i hi hk2 hp0 q
        induction q with
        | zero =>
          intro j hj hb
          have : j = i := by omega
          subst this
          refine ⟨1, ?_⟩
          simp only [L_X4_isSafe_26, nle_self, if_true, nI_1]
          exact hk2 hb
        | succ q ih =>
          intro j hj hb
          have hvi := vp0 (n := i) (N := 5) (by omega) (by omega)
          have hci := cl0 (n := i) (by omega)
          have hvj := vp0 (n := j) (N := 5) (by omega) (by omega)
          have hcj := cl0 (n := j) (by omega)
          have hjt : j < nt := by omega
          have hji : j < i := by omega
          have hlt : ¬ nI i ≤ nI j := nI_ge (by omega) (by omega)
          cases ha : apS t i j with
          | true =>
            obtain ⟨n9, hn⟩ := ih (j + 1) (by omega) (by unfold allB; rw [hb, ha]; rfl)
            refine ⟨n9 + 1, ?_⟩
            simp only [L_X4_isSafe_26, hlt, if_false, ms0, MS_4, MS_8, hvi, hci, hvj, hcj, hi, hjt, true_and, pc_mayCover hi, ov_1, ov_2, ov_3, ov_4, ov_5, ov_6, ov_7, ov_8, ov_10, ov_11, ov_12, ov_13, ov_14, ov_15, ov_16, ov_17, ov_18, ov_19, ov_20, ov_21, ov_22, ov_23, ov_24, ov_25, ov_26, ov_27, ov_28, ov_29, ov_30, ov_31, ov_32, ov_33, ov_34, ov_35, ov_36, b2i_0, nI_1]
            simp only [apS, i_nle, decide_not, Bool.not_not] at ha
            simp at ha
            have hm : (!decide (t 21 j < t 20 i - 100) && !decide (t 21 i < t 20 j - 100)) = false := by
              rcases ha with ha | ha <;> simp [ha]
            simp only [hm, if_true]
            exact hn
          | false =>
            refine ⟨1, ?_⟩
            simp only [L_X4_isSafe_26, hlt, if_false, ms0, MS_4, MS_8, hvi, hci, hvj, hcj, hi, hjt, true_and, pc_mayCover hi, ov_1, ov_2, ov_3, ov_4, ov_5, ov_6, ov_7, ov_8, ov_10, ov_11, ov_12, ov_13, ov_14, ov_15, ov_16, ov_17, ov_18, ov_19, ov_20, ov_21, ov_22, ov_23, ov_24, ov_25, ov_26, ov_27, ov_28, ov_29, ov_30, ov_31, ov_32, ov_33, ov_34, ov_35, ov_36, b2i_0, nI_1]
            have ha0 := ha
            simp only [apS, i_nle, decide_not, Bool.not_not] at ha
            simp at ha
            have hm : (!decide (t 21 j < t 20 i - 100) && !decide (t 21 i < t 20 j - 100)) = true := by
              simp [ha]
            simp only [hm, if_false, Bool.true_eq_false, isB_0, true_and]
            exact hp0 (allB_f ha0 i hji)
      have LO : ∀ q i, i + q = nt → allB (safI t) i = true → ∃ n9, L_X4_isSafe_2 (MS np nb nz nt) post px n9 0 (nI i) (over t) := by
        intro q
        induction q with
        | zero =>
          intro i hi hb
          have : i = nt := by omega
          subst this
          refine ⟨1, ?_⟩
          rw [hb] at h
          simp only [L_X4_isSafe_2, ms0, ov_1, ov_2, ov_3, ov_4, ov_5, ov_6, ov_7, ov_8, ov_10, ov_11, ov_12, ov_13, ov_14, ov_15, ov_16, ov_17, ov_18, ov_19, ov_20, ov_21, ov_22, ov_23, ov_24, ov_25, ov_26, ov_27, ov_28, ov_29, ov_30, ov_31, ov_32, ov_33, ov_34, ov_35, ov_36, hT, nle_self, if_true, isB_1, true_and]
          exact h
        | succ q ih =>
          intro i hi hb
          have hit : i < nt := by omega
          have hvi := vp0 (n := i) (N := 5) (by omega) (by omega)
          have hci := cl0 (n := i) (by omega)
          have hlt : ¬ nI nt ≤ nI i := nI_ge (by omega) (by omega)
          have hbad : safI t i = false → post 0 (over t) := fun z => by rw [allB_f z nt hit] at h; exact h
          cases hbn : bndS t i with
          | false =>
            have := hbad (by unfold safI; rw [hbn]; rfl)
            refine ⟨1, ?_⟩
            unfold bndS at hbn
            simp only [L_X4_isSafe_2, ms0, MS_4, MS_8, ov_1, ov_2, ov_3, ov_4, ov_5, ov_6, ov_7, ov_8, ov_10, ov_11, ov_12, ov_13, ov_14, ov_15, ov_16, ov_17, ov_18, ov_19, ov_20, ov_21, ov_22, ov_23, ov_24, ov_25, ov_26, ov_27, ov_28, ov_29, ov_30, ov_31, ov_32, ov_33, ov_34, ov_35, ov_36, hT, hlt, hvi, hci, hit, if_false, true_and, pc_isInItsBounds hit, b2i_0, hbn, if_true, isB_0]
            exact this
          | true =>
            by_cases ha : allB (apS t i) i = true
            · obtain ⟨n9, hn⟩ := ih (i + 1) (by omega) (by unfold allB; rw [hb, Bool.true_and]; unfold safI; rw [hbn, ha]; rfl)
              refine ⟨n9 + 1, ?_⟩
              unfold bndS at hbn
              simp only [L_X4_isSafe_2, ms0, MS_4, MS_8, ov_1, ov_2, ov_3, ov_4, ov_5, ov_6, ov_7, ov_8, ov_10, ov_11, ov_12, ov_13, ov_14, ov_15, ov_16, ov_17, ov_18, ov_19, ov_20, ov_21, ov_22, ov_23, ov_24, ov_25, ov_26, ov_27, ov_28, ov_29, ov_30, ov_31, ov_32, ov_33, ov_34, ov_35, ov_36, hT, hlt, hvi, hci, hit, if_false, true_and, pc_isInItsBounds hit, b2i_0, hbn, Bool.true_eq_false]
              exact LI (L_X4_isSafe_2 (MS np nb nz nt) post px n9) i hit (fun _ => hn) (fun z => by rw [ha] at z; cases z) i 0 (by omega) rfl
            · have := hbad (by unfold safI; rw [hbn]; simp at ha; rw [ha]; rfl)
              refine ⟨1, ?_⟩
              unfold bndS at hbn
              simp only [L_X4_isSafe_2, ms0, MS_4, MS_8, ov_1, ov_2, ov_3, ov_4, ov_5, ov_6, ov_7, ov_8, ov_10, ov_11, ov_12, ov_13, ov_14, ov_15, ov_16, ov_17, ov_18, ov_19, ov_20, ov_21, ov_22, ov_23, ov_24, ov_25, ov_26, ov_27, ov_28, ov_29, ov_30, ov_31, ov_32, ov_33, ov_34, ov_35, ov_36, hT, hlt, hvi, hci, hit, if_false, true_and, pc_isInItsBounds hit, b2i_0, hbn, Bool.true_eq_false]
              exact LI _ i hit (fun z => absurd z ha) (fun _ => this) i 0 (by omega) rfl
      exact LO nt 0 (by omega) rfl
    exact L _ _ ⟨rfl, rfl, over_thr.symm⟩
  · have L : ∀ (u : TT), u = up2 t 0 0 0 → ∀ (post : Int32 → TT → Prop) (px : String → TT → Prop), post (b2i (allB (safI t) nt)) u → ∃ n9, L_X5_isSafe_9 MM post px n9 0 1 0 u := by
      intro u hu post px h
      have k1 : ∀ k j, k ≠ 0 → u k j = t k j := fun k j hk => by rw [hu]; exact up2_ne (fun z => hk z.1)
      have k20 : ∀ j, u 20 j = t 20 j := fun j => k1 20 j (by omega)
      have k21 : ∀ j, u 21 j = t 21 j := fun j => k1 21 j (by omega)
      have LI : ∀ (k9 : Nat → Int32 → Int32 → TT → Prop) i, i < nt → ∀ b0 : Bool, k9 0 (b2i (b0 && allB (apS t i) i)) (nI (i + 1)) u → ∀ q j, j + q = i → ∃ n9, L_X5_isSafe_74 MM post px k9 n9 0 (b2i (b0 && allB (apS t i) j)) (nI i) (nI j) u := by
        intro k9 i hi b0 hk9 q
        induction q with
        | zero =>
          intro j hj
          have : j = i := by omega
          subst this
          refine ⟨1, ?_⟩
          simp only [L_X5_isSafe_74, nle_self, if_true, nI_1]
          exact hk9
        | succ q ih =>
          intro j hj
          obtain ⟨n9, hn⟩ := ih (j + 1) (by omega)
          have hvi := vp0 (n := i) (N := 5) (by omega) (by omega)
          have hci := cl0 (n := i) (by omega)
          have hvj := vp0 (n := j) (N := 5) (by omega) (by omega)
          have hcj := cl0 (n := j) (by omega)
          have hlt : ¬ nI i ≤ nI j := nI_ge (by omega) (by omega)
          refine ⟨n9 + 1, ?_⟩
          simp only [L_X5_isSafe_74, B_X5_isSafe_115, B_X5_isSafe_120, B_X5_isSafe_135, B_X5_isSafe_136, hlt, if_false, mm20, ar_4, ar_5, ar_6, ar_7, ar_8, ar_9, ar_10, ar_12, ar_13, ar_15, ar_16, ar_17, ar_19, ar_20, ar_21, ar_22, ar_23, ar_24, ar_25, ar_26, ar_27, ar_28, ar_29, ar_30, ar_31, ar_32, ar_33, ar_34, ar_35, ar_36, hvi, hci, hvj, hcj, true_and, k20, k21, b2i_0, nI_1, i10]
          have hab : allB (apS t i) (j + 1) = (allB (apS t i) j && apS t i j) := rfl
          rw [hab, ← Bool.and_assoc] at hn
          cases hb : (b0 && allB (apS t i) j) with
          | false =>
            rw [hb, Bool.false_and] at hn
            simp only [if_true]
            by_cases c1 : t 21 i < t 20 j - 100
            · simp only [c1, if_true]; exact hn
            · by_cases c2 : t 20 i - 100 ≤ t 21 j
              · simp only [c1, c2, if_true, if_false]; exact hn
              · simp only [c1, c2, if_false]; exact hn
          | true =>
            rw [hb, Bool.true_and] at hn
            simp only [Bool.true_eq_false, if_false]
            by_cases c1 : t 21 i < t 20 j - 100
            · simp [apS, c1, b2i] at hn
              simp only [c1, if_true]; exact hn
            · by_cases c2 : t 20 i - 100 ≤ t 21 j
              · simp [apS, c1, c2, b2i] at hn
                simp only [c1, c2, if_true, if_false]; exact hn
              · simp [apS, c1, c2, b2i] at hn
                simp only [c1, c2, if_false]; exact hn
      have LO : ∀ q i, i + q = nt → ∃ n9, L_X5_isSafe_9 MM post px n9 0 (b2i (allB (safI t) i)) (nI i) u := by
        intro q
        induction q with
        | zero =>
          intro i hi
          have : i = nt := by omega
          subst this
          refine ⟨1, ?_⟩
          simp only [L_X5_isSafe_9, mm20, k1 18 0 (by omega), hT, nle_self, if_true, b2i_B, true_and]
          exact h
        | succ q ih =>
          intro i hi
          obtain ⟨n9, hn⟩ := ih (i + 1) (by omega)
          have hit : i < nt := by omega
          have hvi := vp0 (n := i) (N := 5) (by omega) (by omega)
          have hci := cl0 (n := i) (by omega)
          have hlt : ¬ nI nt ≤ nI i := nI_ge (by omega) (by omega)
          have hab : allB (safI t) (i + 1) = (allB (safI t) i && safI t i) := rfl
          rw [hab] at hn
          unfold safI at hn
          rw [← Bool.and_assoc] at hn
          have K := LI (L_X5_isSafe_9 MM post px n9) i hit _ hn i 0 (by omega)
          simp only [allB, Bool.and_true] at K
          refine ⟨n9 + 1, ?_⟩
          simp only [L_X5_isSafe_9, B_X5_isSafe_70, B_X5_isSafe_71, mm20, ar_4, ar_5, ar_6, ar_7, ar_8, ar_9, ar_10, ar_12, ar_13, ar_15, ar_16, ar_17, ar_19, ar_20, ar_21, ar_22, ar_23, ar_24, ar_25, ar_26, ar_27, ar_28, ar_29, ar_30, ar_31, ar_32, ar_33, ar_34, ar_35, ar_36, k1 18 0 (by omega), hT, hlt, if_false, hvi, hci, true_and, k20, k21, k1 19 i (by omega), k1 23 i (by omega), b2i_0]
          change ∃ m, L_X5_isSafe_74 MM post px (L_X5_isSafe_9 MM post px n9) m 0 (b2i (allB (safI t) i && bndS t i)) (nI i) 0 u at K
          cases hb : allB (safI t) i with
          | false =>
            rw [hb, Bool.false_and] at K
            simp only [if_true]
            exact K
          | true =>
            rw [hb, Bool.true_and] at K
            simp only [Bool.true_eq_false, if_false]
            by_cases c1 : t 19 i < t 20 i
            · simp [bndS, c1, b2i] at K
              simp only [c1, if_true]; exact K
            · by_cases c2 : t 21 i < t 19 i
              · simp [bndS, c2, b2i] at K
                simp only [c1, c2, if_true, if_false]; exact K
              · by_cases c3 : t 23 i < t 21 i
                · simp [bndS, c3, b2i] at K
                  simp only [c1, c2, c3, if_true, if_false]; exact K
                · simp [bndS, c1, c2, c3, b2i] at K
                  simp only [c1, c2, c3, if_false]; exact K
      exact LO nt 0 (by omega)
    simp only [MdI, P_X5_isSafe, mm20]
    exact L _ rfl _ _ ⟨fun _ => rfl, rfl⟩
end OP6
