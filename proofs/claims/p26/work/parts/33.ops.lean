/-! each call of the law keeps the trains apart -/
/-- the state of the law's second loop: all is put in *-/
def GS (n tk : Nat) (fr to : Nat → Int32) (t : TT) : Prop := Inv n 6 12 4 5 tk t ∧ SA t 4 5 (fun _ => false) (fun _ => tk) ∧ ∀ z, z < 4 → t 15 z = fr z ∧ t 16 z = to z
abbrev M26 : Nat → Nat → Bool := MS 6 12 4 5
section OK
variable {t : TT} {n tk i : Nat} {fr to : Nat → Int32} {px : String → TT → Prop}
theorem GS.mk {t' : TT} {n' k j : Nat} {v : Int32} (H : GS n tk fr to t) (hk : rs k = false) (e : t' = up2 t k j v) (hI : Inv n' 6 12 4 5 tk t') : GS n' tk fr to t' := by
  subst e
  refine ⟨hI, H.2.1.up hk, fun z hz => ?_⟩
  rw [up2_ne (fun q => by rw [← q.1] at hk; cases hk), up2_ne (fun q => by rw [← q.1] at hk; cases hk)]
  exact H.2.2 z hz
theorem GS.mono {n' : Nat} (H : GS n tk fr to t) (h : n ≤ n') : GS n' tk fr to t := ⟨H.1.up h, H.2⟩
theorem ok_pass {post : Int32 → TT → Prop} {j : Nat} (H : GS n tk fr to t) (j1 : 1 ≤ j) (j2 : j ≤ 99) (e : tk + j ≤ 999) (h : ∀ r t', GS n (tk + j) fr to t' → post r (over t')) : P_X4_pass M26 post px 0 (nI j) (over t) := by
  refine sc_pass H.1 j1 j2 e (h _ _ ⟨tickN_inv H.1 j e, tickN_SA H.1 H.2.1 j e, fun z hz => ?_⟩)
  have := tickN_zE (np := 6) (nb := 12) (nz := 4) (nt := 5) (tk := tk) (t := t) j z
  rw [this.1, this.2]
  exact H.2.2 z hz
theorem ok_works {post : Int32 → TT → Prop} (H : GS n tk fr to t) (hi : i < 12) {b : Int32} (hb : isB b) (h : ∀ r t', GS n tk fr to t' → post r (over t')) : P_X4_works M26 post px 0 (nI i) b (over t) := sc_works H.1 hi hb (h _ _ (H.mk rfl rfl (H.1.set13 hi hb)))
theorem ok_speed {post : Int32 → TT → Prop} {q : Nat} (H : GS n tk fr to t) (h1 : 1 ≤ q) (h2 : q ≤ 20) (h : ∀ r t', GS n tk fr to t' → post r (over t')) : P_X4_speed M26 post px 0 (nI q) (over t) := sc_speed (nI_nlt (a := q) (b := 1) (by omega) (by omega)) (nI_le (a := q) (b := 20) (by omega) (by omega)) (h _ _ (H.mk rfl rfl (H.1.set2 h1 h2)))
theorem ok_slip {post : Int32 → TT → Prop} (H : GS n tk fr to t) (hi : i < 5) {b : Int32} (hb : b = -1 ∨ b = 0 ∨ b = 1) (h : ∀ r t', GS n tk fr to t' → post r (over t')) : P_X4_slip M26 post px 0 (nI i) b (over t) := by
  refine sc_slip H.1 hi (by rcases hb with rfl | rfl | rfl <;> decide +kernel) (by rcases hb with rfl | rfl | rfl <;> decide +kernel) (h _ _ (H.mk rfl rfl (H.1.train (by omega) hi ?_)))
  obtain ⟨q1, -, q3⟩ := H.1.2.2.2.1 i hi
  unfold TrI
  simp only [up_25_1, up_25_2, up_25_3, up_25_4, up_25_5, up_25_6, up_25_7, up_25_8, up_25_10, up_25_11, up_25_12, up_25_13, up_25_14, up_25_15, up_25_16, up_25_17, up_25_18, up_25_19, up_25_20, up_25_21, up_25_22, up_25_23, up_25_24, up_25_26, up_25_27, up_25_28, up_25_29, up_25_30, up_25_31, up_25_32, up_25_33, up_25_34, up_25_35, up_25_36, up2_same]
  exact ⟨q1, hb, q3⟩
theorem ok_silent {post : Int32 → TT → Prop} (H : GS n tk fr to t) (hi : i < 5) {b : Int32} (hb : isB b) (h : ∀ r t', GS n tk fr to t' → post r (over t')) : P_X4_silent M26 post px 0 (nI i) b (over t) := by
  refine sc_silent H.1 hi hb (h _ _ (H.mk rfl rfl (H.1.train (by omega) hi ?_)))
  obtain ⟨q1, q2, q3, q4, q5, q6, q7, q8, -, q10⟩ := H.1.2.2.2.1 i hi
  unfold TrI
  simp only [up_34_1, up_34_2, up_34_3, up_34_4, up_34_5, up_34_6, up_34_7, up_34_8, up_34_10, up_34_11, up_34_12, up_34_13, up_34_14, up_34_15, up_34_16, up_34_17, up_34_18, up_34_19, up_34_20, up_34_21, up_34_22, up_34_23, up_34_24, up_34_25, up_34_26, up_34_27, up_34_28, up_34_29, up_34_30, up_34_31, up_34_32, up_34_33, up_34_35, up_34_36, up2_same]
  exact ⟨q1, q2, q3, q4, q5, q6, q7, q8, hb, q10⟩
theorem isB_b2i {x : Int32} (h : isB x) : b2i (!decide (x = 0)) = x := by
  rcases h with rfl | rfl <;> decide +kernel
theorem ok_emergency {post : Int32 → TT → Prop} (H : GS n tk fr to t) (hi : i < 5) (h : ∀ r t', GS n tk fr to t' → isB r → t' 33 i = r → post r (over t')) : P_X4_emergency M26 post px 0 (nI i) (over t) := by
  refine sc_emergency H.1 hi (fun _ => h _ _ H (H.1.2.2.2.1 i hi).2.2.2.2.2.2.2.1 rfl) (fun e => h _ _ (H.mk rfl rfl (H.1.train (by omega) hi ?_)) isB_1 (up2_same _ _ _ _))
  obtain ⟨q1, q2, q3, q4, q5, q6, q7, q8, q9, -, q11⟩ := H.1.2.2.2.1 i hi
  unfold TrI
  simp only [up_33_1, up_33_2, up_33_3, up_33_4, up_33_5, up_33_6, up_33_7, up_33_8, up_33_10, up_33_11, up_33_12, up_33_13, up_33_14, up_33_15, up_33_16, up_33_17, up_33_18, up_33_19, up_33_20, up_33_21, up_33_22, up_33_23, up_33_24, up_33_25, up_33_26, up_33_27, up_33_28, up_33_29, up_33_30, up_33_31, up_33_32, up_33_34, up_33_35, up_33_36, up2_same]
  refine ⟨q1, q2, q3, q4, q5, q6, q7, isB_1, q9, fun _ z => e ?_, q11⟩
  have z' : t 22 i = 0 := z
  rw [z']
  exact Int32.le_refl 0
theorem ok_hold {post : Int32 → TT → Prop} {j : Nat} (H : GS n tk fr to t) (hi : i < 5) (h1 : 1 ≤ j) (h2 : j ≤ 60) (e0 : t 22 i = 0) (h : ∀ r t', GS n tk fr to t' → post r (over t')) : P_X4_hold M26 post px 0 (nI i) (nI j) (over t) := by
  refine sc_hold H.1 hi (nI_nlt (a := j) (b := 1) (by omega) (by omega)) (nI_le (a := j) (b := 60) (by omega) (by omega)) e0 (h _ _ (H.mk rfl rfl (H.1.train (by omega) hi ?_)))
  obtain ⟨q1, q2, q3, q4, q5, q6, ⟨w, w1, w2⟩, q8⟩ := H.1.2.2.2.1 i hi
  unfold TrI
  simp only [up_29_1, up_29_2, up_29_3, up_29_4, up_29_5, up_29_6, up_29_7, up_29_8, up_29_10, up_29_11, up_29_12, up_29_13, up_29_14, up_29_15, up_29_16, up_29_17, up_29_18, up_29_19, up_29_20, up_29_21, up_29_22, up_29_23, up_29_24, up_29_25, up_29_26, up_29_27, up_29_28, up_29_30, up_29_31, up_29_32, up_29_33, up_29_34, up_29_35, up_29_36, up2_same]
  refine ⟨q1, q2, q3, q4, q5, q6, ⟨min (w + j) 99, by omega, ?_⟩, q8⟩
  rw [w2, nI_add]
  exact nI_min (a := w + j) (b := 99) (by omega) (by omega)
theorem ok_shut {post : TT → Prop} (H : GS n tk fr to t) (hi : i < 5) (e : ¬ t 27 i = -1) (h : ∀ t', GS n tk fr to t' → post (over t')) : P_X4_shut M26 post px 0 (nI i) (over t) := by
  refine sc_shut H.1 hi e (h _ (H.mk rfl rfl (H.1.train (by omega) hi ?_)))
  obtain ⟨q1, q2, q3, -, -, q6⟩ := H.1.2.2.2.1 i hi
  unfold TrI
  simp only [up_27_1, up_27_2, up_27_3, up_27_4, up_27_5, up_27_6, up_27_7, up_27_8, up_27_10, up_27_11, up_27_12, up_27_13, up_27_14, up_27_15, up_27_16, up_27_17, up_27_18, up_27_19, up_27_20, up_27_21, up_27_22, up_27_23, up_27_24, up_27_25, up_27_26, up_27_28, up_27_29, up_27_30, up_27_31, up_27_32, up_27_33, up_27_34, up_27_35, up_27_36, up2_same]
  exact ⟨q1, q2, q3, Or.inl trivial, fun z => absurd rfl z, q6⟩
theorem ok_stop {post : TT → Prop} {p : Nat} (H : GS n tk fr to t) (hi : i < 5) (hp : p < 6) (e : t 34 i = 0) (d : t 27 i = -1) (q : ¬ t 4 p + 1 < t 21 i + way (t 22 i)) (h : ∀ t', GS n tk fr to t' → post (over t')) : P_X4_stop M26 post px 0 (nI i) (nI p) (over t) := by
  refine sc_stop H.1 hi hp e d q (h _ (H.mk rfl rfl (H.1.train (by omega) hi ?_)))
  obtain ⟨q1, q2, -, q4, -, q6⟩ := H.1.2.2.2.1 i hi
  unfold TrI
  simp only [up_26_1, up_26_2, up_26_3, up_26_4, up_26_5, up_26_6, up_26_7, up_26_8, up_26_10, up_26_11, up_26_12, up_26_13, up_26_14, up_26_15, up_26_16, up_26_17, up_26_18, up_26_19, up_26_20, up_26_21, up_26_22, up_26_23, up_26_24, up_26_25, up_26_27, up_26_28, up_26_29, up_26_30, up_26_31, up_26_32, up_26_33, up_26_34, up_26_35, up_26_36, up2_same]
  exact ⟨q1, q2, Or.inr ⟨p, hp, rfl⟩, q4, fun _ => nI_m1 (by omega), q6⟩
theorem ok_open {post : Int32 → TT → Prop} {j : Nat} (H : GS n tk fr to t) (hi : i < 5) (hj : j ≤ 120) (ha : atStopS t i = true) (d : t 27 i = -1) (h : ∀ r t', GS n tk fr to t' → post r (over t')) : P_X4_open M26 post px 0 (nI i) (nI j) (over t) := by
  refine sc_open H.1 hi hj ha d fun d9 q9 h1 h2 => ?_
  have hq : t 26 i ≠ -1 := fun z => by unfold atStopS at ha; rw [if_pos z] at ha; cases ha
  have I1 : Inv n 6 12 4 5 tk (up2 t 27 i (nI d9)) := by
    refine H.1.train (by omega) hi ?_
    obtain ⟨q1, q2, q3, -, -, q6⟩ := H.1.2.2.2.1 i hi
    unfold TrI
    simp only [up_27_1, up_27_2, up_27_3, up_27_4, up_27_5, up_27_6, up_27_7, up_27_8, up_27_10, up_27_11, up_27_12, up_27_13, up_27_14, up_27_15, up_27_16, up_27_17, up_27_18, up_27_19, up_27_20, up_27_21, up_27_22, up_27_23, up_27_24, up_27_25, up_27_26, up_27_28, up_27_29, up_27_30, up_27_31, up_27_32, up_27_33, up_27_34, up_27_35, up_27_36, up2_same]
    exact ⟨q1, q2, q3, Or.inr ⟨d9, h1, rfl⟩, fun _ => hq, q6⟩
  refine h _ _ ((H.mk rfl rfl I1).mk rfl rfl (I1.train (by omega) hi ?_))
  obtain ⟨q1, q2, q3, q4, q5, -, q7⟩ := I1.2.2.2.1 i hi
  simp only [up2_same] at q4 q5
  unfold TrI
  simp only [up_28_1, up_28_2, up_28_3, up_28_4, up_28_5, up_28_6, up_28_7, up_28_8, up_28_10, up_28_11, up_28_12, up_28_13, up_28_14, up_28_15, up_28_16, up_28_17, up_28_18, up_28_19, up_28_20, up_28_21, up_28_22, up_28_23, up_28_24, up_28_25, up_28_26, up_28_27, up_28_29, up_28_30, up_28_31, up_28_32, up_28_33, up_28_34, up_28_35, up_28_36, up2_same]
  exact ⟨q1, q2, q3, q4, q5, ⟨_, h2, rfl⟩, q7⟩
theorem ok_depart {post : Int32 → TT → Prop} (H : GS n tk fr to t) (hn : n ≤ 600) (hi : i < 5) (ha : atStopS t i = true) (hd1 : t 27 i = -1) (hd2 : t 29 i = 0) (h : ∀ r t', GS (n + 1) tk fr to t' → post r (over t')) : P_X4_depart M26 post px 0 (nI i) (over t) := by
  refine sc_depart H.1 hn hi ha hd1 hd2 fun p d w v p1 d1 => ?_
  have G0 := H.mono (show n ≤ n + 1 by omega)
  have G1 := G0.mk (k := 9) (j := p) (v := w) rfl rfl (G0.1.plat (by omega) p1 (G0.1.2.2.2.2.1 p p1))
  have G2 := G1.mk (k := 8) (j := p) (v := v) rfl rfl (G1.1.plat (by omega) p1 (G1.1.2.2.2.2.1 p p1))
  have G3 := G2.mk (k := 7) (j := p) (v := nI d + 1) rfl rfl (G2.1.plat (by omega) p1 (by
    obtain ⟨-, w⟩ := G2.1.2.2.2.2.1 p p1
    exact ⟨⟨d + 1, by omega, by rw [up2_same]; exact nI_1 d⟩, w⟩))
  refine h _ _ (G3.mk rfl rfl (G3.1.train (by omega) hi ?_))
  obtain ⟨w1, w2, -, w4, -, w6⟩ := G3.1.2.2.2.1 i hi
  unfold TrI
  simp only [up_26_1, up_26_2, up_26_3, up_26_4, up_26_5, up_26_6, up_26_7, up_26_8, up_26_10, up_26_11, up_26_12, up_26_13, up_26_14, up_26_15, up_26_16, up_26_17, up_26_18, up_26_19, up_26_20, up_26_21, up_26_22, up_26_23, up_26_24, up_26_25, up_26_27, up_26_28, up_26_29, up_26_30, up_26_31, up_26_32, up_26_33, up_26_34, up_26_35, up_26_36, up2_same]
  exact ⟨w1, w2, Or.inl trivial, w4, fun z => absurd hd1 z, w6⟩
/-- a ZONE is closed, or opened -/
def mayS (t : TT) (a b : Int32) (k : Nat) : Prop := b < t 20 k - 100 ∨ (t 21 k < a ∧ ¬ a < (if t 34 k = 0 then t 21 k + way (t 22 k) else t 23 k))
theorem ok_close {post : Int32 → TT → Prop} (H : GS n tk fr to t) (hi : i < 4) {b : Int32} (hb : isB b) (hm : ¬ b = 0 → ∀ k, k < 5 → mayS t (t 15 i) (t 16 i) k) (h : ∀ r t', GS n tk fr to t' → post r (over t')) : P_X4_close M26 post px 0 (nI i) b (over t) := by
  obtain ⟨hI, ⟨hF, hZ, hR⟩, hz⟩ := id H
  obtain ⟨z1, z2, z3⟩ := hZ i hi
  have num : ∀ k, k < 5 → ∃ v, v ≤ 20 ∧ t 22 k = nI v ∧ (t 20 k - 100).toInt = (t 20 k).toInt - 100 ∧ (t 21 k + way (t 22 k)).toInt = (t 21 k).toInt + wyI v ∧ 0 ≤ (t 20 k).toInt ∧ (t 20 k).toInt ≤ (t 21 k).toInt ∧ bkI v ≤ wyI v ∧ 0 ≤ bkI v ∧ (t 21 k).toInt + bkI v ≤ (t 23 k).toInt := by
    intro k hk
    obtain ⟨a1, a2, a3, ⟨v, v1, v2, v3⟩, a5, a6, a7⟩ := hF.1 k hk
    have v3 : (t 21 k).toInt + bkI v ≤ (t 23 k).toInt := v3
    obtain ⟨b1, b2, b3, -⟩ := wy_bk v (by omega)
    have h100 : (100 : Int32).toInt = 100 := by decide +kernel
    have hw := wy_dec v (by omega)
    refine ⟨v, v1, v2, ?_, ?_, a1, by omega, b2, b1, v3⟩
    · rw [i_sub (by rw [h100]; omega) (by rw [h100]; omega), h100]
    · rw [v2, i_add (by rw [hw]; omega) (by rw [hw]; omega), hw]
  refine sc_close hI hi hb (fun e e2 => ?_) fun r => h r _ ?_
  · have hall : ∀ m, m ≤ 5 → allB (okC t i) m = true := by
      intro m
      induction m with
      | zero => intro _; rfl
      | succ m ih =>
        intro hm5
        unfold allB
        rw [ih (by omega), Bool.true_and]
        obtain ⟨v, v1, v2, n1, n2, n3, n4, n5, n6, n7⟩ := num m (by omega)
        unfold okC keepsS
        rcases hm e m (by omega) with q | ⟨q1, q2⟩
        · have q' := q
          rw [i_lt, n1] at q'
          have c : t 15 i ≤ t 21 m := by rw [i_le]; omega
          simp [q, c]
        · have c : ¬ t 15 i ≤ t 21 m := by rw [i_le]; rw [i_lt] at q1; omega
          by_cases s : t 34 m = 0
          · rw [if_pos s] at q2
            simp [q1, s, q2]
          · rw [if_neg s] at q2
            simp [q1, s, q2]
    exact hall 5 (Nat.le_refl _)
  · have I1 : Inv n 6 12 4 5 tk (up2 t 17 i b) := hI.set17 hi hb
    have ne : ∀ k j, k ≠ 17 → up2 t 17 i b k j = t k j := fun k j h => up2_ne fun z => h z.1
    have cz : ∀ z, z < 4 → ∀ k, k < 5 → ¬ up2 t 17 i b 17 z = 0 → (¬ t 17 z = 0) ∨ (z = i ∧ mayS t (t 15 i) (t 16 i) k) := by
      intro z hz9 k hk hc
      by_cases e : z = i
      · subst e
        rw [up2_same] at hc
        exact Or.inr ⟨rfl, hm hc k hk⟩
      · rw [up2_ne (fun q => e q.2)] at hc
        exact Or.inl hc
    refine ⟨I1.deal9 5 (Nat.le_refl _), deal_SA (Nat.le_refl _) (fun k hk => ?_) (fun z hz9 => ?_) (fun k hk => ?_), fun z hz9 => ?_⟩
    · obtain ⟨a1, a2, a3, a4, a5, v, v1, v2, v3, v4, v5, v6⟩ := hF.pre hk
      obtain ⟨w, w1, w2, n1, n2, n3, n4, n5, n6, n7⟩ := num k hk
      have hvw : v = w := by
        rw [v2] at w2
        exact (nI_eq (by omega) (by omega)).mp w2
      subst hvw
      unfold PrT
      rw [ne 20 _ (by omega), ne 19 _ (by omega), ne 21 _ (by omega), ne 24 _ (by omega), ne 22 _ (by omega), ne 24 _ (by omega), ne 34 _ (by omega), ne 23 _ (by omega)]
      refine ⟨a1, a2, a3, a4, a5, v, v1, v2, v3, v4, fun z hz9 hc => ?_, fun hs => ?_⟩
      · rw [ne 15 _ (by omega)]
        rcases cz z hz9 k hk hc with q | ⟨rfl, q | ⟨q1, q2⟩⟩
        · exact v5 z hz9 q
        · rw [i_lt, n1] at q
          exact Or.inl (by omega)
        · rw [i_lt] at q1 q2
          by_cases s : t 34 k = 0
          · rw [if_pos s, n2] at q2
            exact Or.inr (by omega)
          · rw [if_neg s] at q2
            exact Or.inr (by omega)
      · obtain ⟨u1, u2, u3, u4⟩ := v6 hs
        refine ⟨u1, u2, u3, fun z hz9 => ?_⟩
        unfold ClS
        rw [ne 15 _ (by omega), ne 20 _ (by omega), ne 21 _ (by omega), ne 23 _ (by omega)]
        intro hc
        rcases cz z hz9 k hk hc with q | ⟨rfl, q | ⟨q1, q2⟩⟩
        · exact u4 z hz9 q
        · rw [i_lt, n1] at q
          exact Or.inl (by omega)
        · rw [if_neg hs] at q2
          rw [i_lt] at q1 q2
          exact Or.inr ⟨by omega, by omega⟩
    · rw [ne 15 _ (by omega), ne 16 _ (by omega)]; exact hZ z hz9
    · rw [ne 32 _ (by omega), ne 19 _ (by omega), sumR_congr (ne 31 _ (by omega)) _ (fun q _ => ne 36 _ (by omega))]
      exact hR k hk
    · rw [dealR_ne (by omega), dealR_ne (by omega), ne 15 _ (by omega), ne 16 _ (by omega)]
      exact hz z hz9
/-- what the law asks of all trains -/
theorem GS.bnd (H : GS n tk fr to t) (hi : i < 5) : bndS t i = true ∧ ¬ t 19 i < t 20 i ∧ ¬ t 21 i < t 19 i ∧ ¬ t 23 i < t 21 i ∧ ¬ 5000 < t 23 i := by
  obtain ⟨a1, a2, a3, ⟨v, v1, v2, v3⟩, a5, a6, a7⟩ := H.2.1.1.1 i hi
  have b0 := sB_0 false v1
  have v3 : (t 21 i).toInt + sB false v ≤ (t 23 i).toInt := v3
  have c1 : ¬ t 19 i < t 20 i := by rw [i_lt]; omega
  have c2 : ¬ t 21 i < t 19 i := by rw [i_lt]; omega
  have c3 : ¬ t 23 i < t 21 i := by rw [i_lt]; omega
  have c4 : ¬ 5000 < t 23 i := by rw [i_lt, i_5000]; omega
  refine ⟨?_, c1, c2, c3, c4⟩
  unfold bndS
  simp [c1, c2, c3]
theorem GS.apart {j : Nat} (H : GS n tk fr to t) (hj : j < i) (hi : i < 5) : t 21 i < t 20 j - 100 := by
  have h := PrT.chain (fun k hk => H.2.1.1.pre hk) i j hj hi
  obtain ⟨a1, a2, a3, ⟨v, v1, v2, v3⟩, a5, a6, a7⟩ := H.2.1.1.1 j (by omega)
  have b0 := sB_0 false v1
  have v3 : (t 21 j).toInt + sB false v ≤ (t 23 j).toInt := v3
  have h100 : (100 : Int32).toInt = 100 := by decide +kernel
  rw [i_lt, i_sub (by rw [h100]; omega) (by rw [h100]; omega), h100]
  omega
theorem ok_isSafe {post : Int32 → TT → Prop} (H : GS n tk fr to t) (h : post 1 (over t)) : P_X4_isSafe M26 post px 0 (over t) :=
  sc_isSafe H.1 (fun i hi => (H.bnd hi).1) (fun i j hj hi => by unfold apS; rw [decide_eq_true (H.apart hj hi), Bool.true_or]) h
end OK
