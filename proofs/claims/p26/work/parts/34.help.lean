/-! the law's own small methods -/
section HL
variable {t : TT} {n tk i : Nat} {fr to : Nat → Int32} {px : String → TT → Prop}
theorem hl_way {M : Nat → Nat → Bool} {post : Int32 → TT → Prop} {a : Int32} {u : TT} : P_L_way M post px a u = post (way a) u := by
  unfold P_L_way way
  simp
theorem e_0 {post : Int32 → TT → Prop} (H : GS n tk fr to t) (hi : i < 5) : P_X4_trainIs M26 post px 0 (nI i) 0 (over t) = post (t 19 i) (over t) := (eq_trainIs H.1 hi (by decide +kernel) (by decide +kernel)).trans (by unfold tellT; rw [if_pos (by decide +kernel)])
theorem e_1 {post : Int32 → TT → Prop} (H : GS n tk fr to t) (hi : i < 5) : P_X4_trainIs M26 post px 0 (nI i) 1 (over t) = post (t 20 i) (over t) := (eq_trainIs H.1 hi (by decide +kernel) (by decide +kernel)).trans (by unfold tellT; rw [if_neg (by decide +kernel), if_pos (by decide +kernel)])
theorem e_2 {post : Int32 → TT → Prop} (H : GS n tk fr to t) (hi : i < 5) : P_X4_trainIs M26 post px 0 (nI i) 2 (over t) = post (t 21 i) (over t) := (eq_trainIs H.1 hi (by decide +kernel) (by decide +kernel)).trans (by unfold tellT; rw [if_neg (by decide +kernel), if_neg (by decide +kernel), if_pos (by decide +kernel)])
theorem e_3 {post : Int32 → TT → Prop} (H : GS n tk fr to t) (hi : i < 5) : P_X4_trainIs M26 post px 0 (nI i) 3 (over t) = post (t 22 i) (over t) := (eq_trainIs H.1 hi (by decide +kernel) (by decide +kernel)).trans (by unfold tellT; rw [if_neg (by decide +kernel), if_neg (by decide +kernel), if_neg (by decide +kernel), if_pos (by decide +kernel)])
theorem e_4 {post : Int32 → TT → Prop} (H : GS n tk fr to t) (hi : i < 5) : P_X4_trainIs M26 post px 0 (nI i) 4 (over t) = post (t 23 i) (over t) := (eq_trainIs H.1 hi (by decide +kernel) (by decide +kernel)).trans (by unfold tellT; rw [if_neg (by decide +kernel), if_neg (by decide +kernel), if_neg (by decide +kernel), if_neg (by decide +kernel), if_pos (by decide +kernel)])
theorem e_5 {post : Int32 → TT → Prop} (H : GS n tk fr to t) (hi : i < 5) : P_X4_trainIs M26 post px 0 (nI i) 5 (over t) = post (b2i (!decide (t 33 i = 0))) (over t) := (eq_trainIs H.1 hi (by decide +kernel) (by decide +kernel)).trans (by unfold tellT; rw [if_neg (by decide +kernel), if_neg (by decide +kernel), if_neg (by decide +kernel), if_neg (by decide +kernel), if_neg (by decide +kernel), if_pos (by decide +kernel)])
theorem e_6 {post : Int32 → TT → Prop} (H : GS n tk fr to t) (hi : i < 5) : P_X4_trainIs M26 post px 0 (nI i) 6 (over t) = post (b2i (!decide (t 34 i = 0))) (over t) := (eq_trainIs H.1 hi (by decide +kernel) (by decide +kernel)).trans (by unfold tellT; rw [if_neg (by decide +kernel), if_neg (by decide +kernel), if_neg (by decide +kernel), if_neg (by decide +kernel), if_neg (by decide +kernel), if_neg (by decide +kernel), if_pos (by decide +kernel)])
theorem e_7 {post : Int32 → TT → Prop} (H : GS n tk fr to t) (hi : i < 5) : P_X4_trainIs M26 post px 0 (nI i) 7 (over t) = post (t 26 i) (over t) := (eq_trainIs H.1 hi (by decide +kernel) (by decide +kernel)).trans (by unfold tellT; rw [if_neg (by decide +kernel), if_neg (by decide +kernel), if_neg (by decide +kernel), if_neg (by decide +kernel), if_neg (by decide +kernel), if_neg (by decide +kernel), if_neg (by decide +kernel), if_pos (by decide +kernel)])
theorem e_8 {post : Int32 → TT → Prop} (H : GS n tk fr to t) (hi : i < 5) : P_X4_trainIs M26 post px 0 (nI i) 8 (over t) = post (t 27 i) (over t) := (eq_trainIs H.1 hi (by decide +kernel) (by decide +kernel)).trans (by unfold tellT; rw [if_neg (by decide +kernel), if_neg (by decide +kernel), if_neg (by decide +kernel), if_neg (by decide +kernel), if_neg (by decide +kernel), if_neg (by decide +kernel), if_neg (by decide +kernel), if_neg (by decide +kernel), if_pos (by decide +kernel)])
theorem e_10 {post : Int32 → TT → Prop} (H : GS n tk fr to t) (hi : i < 5) : P_X4_trainIs M26 post px 0 (nI i) 10 (over t) = post (t 29 i) (over t) := (eq_trainIs H.1 hi (by decide +kernel) (by decide +kernel)).trans (by unfold tellT; rw [if_neg (by decide +kernel), if_neg (by decide +kernel), if_neg (by decide +kernel), if_neg (by decide +kernel), if_neg (by decide +kernel), if_neg (by decide +kernel), if_neg (by decide +kernel), if_neg (by decide +kernel), if_neg (by decide +kernel), if_neg (by decide +kernel)])
theorem e_p0 {post : Int32 → TT → Prop} {p : Nat} (H : GS n tk fr to t) (hp : p < 6) : P_X4_platformIs M26 post px 0 (nI p) 0 (over t) = post (t 4 p) (over t) := (eq_platformIs H.1 hp (by decide +kernel) (by decide +kernel)).trans (by unfold tellP; rw [if_pos (by decide +kernel)])
theorem hl_isAt {post : Int32 → TT → Prop} (H : GS n tk fr to t) (hi : i < 5) (h : post (b2i (atStopS t i)) (over t)) : P_L_isAt M26 post px 0 (nI i) (over t) := by
  obtain ⟨-, -, hs, -⟩ := H.1.2.2.2.1 i hi
  unfold atStopS at h
  simp only [B_L_isAt_59, B_L_isAt_58, P_L_isAt, ms0, e_7 H hi]
  rcases hs with e | ⟨p, p1, e⟩
  · rw [e, if_neg (by decide +kernel)]
    rw [if_pos e] at h
    exact ⟨isB_0, h⟩
  · have hn1 := nI_m1 (n := p) (by omega)
    have hcp := cl0 (n := p) (by omega)
    rw [e, if_neg hn1, hcp] at h
    rw [e, if_pos (show (0 : Int32) ≤ nI p from nI_le (a := 0) (b := p) (by omega) (by omega))]
    simp only [e_p0 H p1, e_3 H hi, e_1 H hi, e_2 H hi]
    by_cases c1 : t 22 i = 0
    · by_cases c2 : t 20 i < t 4 p - 1
      · simp only [c1, c2, decide_true, Bool.true_and, Bool.not_true, Bool.false_and, if_true] at h ⊢
        exact ⟨isB_0, h⟩
      · by_cases c3 : t 4 p + 1 < t 21 i
        · simp only [c1, c2, c3, decide_true, decide_false, Bool.true_and, Bool.not_true, Bool.not_false, if_true, if_false] at h ⊢
          exact ⟨isB_0, h⟩
        · simp only [c1, c2, c3, decide_true, decide_false, Bool.true_and, Bool.not_false, if_true, if_false] at h ⊢
          exact ⟨isB_1, h⟩
    · simp only [c1, decide_false, Bool.false_and, if_false] at h ⊢
      exact ⟨isB_0, h⟩
theorem hl_mayStop {post : Int32 → TT → Prop} {p : Nat} (H : GS n tk fr to t) (hi : i < 5) (hp : p < 6) (h0 : post 0 (over t)) (h1 : t 34 i = 0 → t 27 i = -1 → ¬ t 4 p + 1 < t 21 i + way (t 22 i) → post 1 (over t)) : P_L_mayStop M26 post px 0 (nI i) (nI p) (over t) := by
  simp only [B_L_mayStop_53, B_L_mayStop_52, P_L_mayStop, ms0, e_6 H hi, e_8 H hi, e_2 H hi, e_3 H hi, hl_way, e_p0 H hp, b2i_0]
  by_cases c1 : t 34 i = 0
  · by_cases c2 : t 27 i = -1
    · by_cases c3 : t 4 p + 1 < t 21 i + way (t 22 i)
      · simp only [c1, c2, c3, decide_true, Bool.not_true, if_true]
        exact ⟨isB_0, h0⟩
      · simp only [c1, c2, c3, decide_true, Bool.not_true, if_true, if_false]
        exact ⟨isB_1, h1 c1 c2 c3⟩
    · simp only [c1, c2, decide_true, Bool.not_true, if_true, if_false]
      exact ⟨isB_0, h0⟩
  · simp only [c1, decide_false, Bool.not_false, Bool.true_eq_false, if_false]
    exact ⟨isB_0, h0⟩
theorem hl_mayClose {post : Int32 → TT → Prop} {a b : Int32} (H : GS n tk fr to t) (h0 : post 0 (over t)) (h1 : (∀ k, k < 5 → mayS t a b k) → post 1 (over t)) : P_L_mayClose M26 post px 0 a b (over t) := by
  have L : ∀ q k, k + q = 5 → ∀ may : Bool, (may = true → ∀ j, j < k → mayS t a b j) → ∃ n9, L_L_mayClose_5 M26 post px n9 0 a b (b2i may) (nI k) (over t) := by
    intro q
    induction q with
    | zero =>
      intro k hk may hm
      have : k = 5 := by omega
      subst this
      refine ⟨1, ?_⟩
      simp only [L_L_mayClose_5]
      rw [if_pos (by decide +kernel)]
      refine ⟨b2i_B _, ?_⟩
      cases may
      · exact h0
      · exact h1 (hm rfl)
    | succ q ih =>
      intro k hk may hm
      have hk5 : k < 5 := by omega
      have hlt : ¬ (5 : Int32) ≤ nI k := nI_ge (a := k) (b := 5) (by omega) (by omega)
      obtain ⟨m1, hm1⟩ := ih (k + 1) (by omega) false (fun z => by cases z)
      have K : mayS t a b k → may = true → ∃ n9, L_L_mayClose_5 M26 post px n9 0 a b 1 (nI k + 1) (over t) := fun hs hmt => by
        obtain ⟨m2, hm2⟩ := ih (k + 1) (by omega) true (fun _ j hj => by
          by_cases e : j = k
          · subst e; exact hs
          · exact hm hmt j (by omega))
        exact ⟨m2, by rw [nI_1]; exact hm2⟩
      have hm1' : L_L_mayClose_5 M26 post px m1 0 a b 0 (nI k + 1) (over t) := by rw [nI_1]; exact hm1
      cases may with
      | false =>
        refine ⟨m1 + 1, ?_⟩
        have e0 : b2i false = 0 := rfl
        simp only [L_L_mayClose_5, hlt, if_false, ms0, e_2 H hk5, e_1 H hk5, e0]
        by_cases c1 : t 20 k - 100 ≤ b
        · simp only [c1, if_true, B_L_mayClose_39, ms0, e_6 H hk5, e_4 H hk5, e_3 H hk5, hl_way, B_L_mayClose_76, B_L_mayClose_103, B_L_mayClose_104]
          split <;> exact hm1'
        · simp only [c1, if_false, B_L_mayClose_39, ms0, e_6 H hk5, e_4 H hk5, e_3 H hk5, hl_way, B_L_mayClose_76, B_L_mayClose_103, B_L_mayClose_104, if_true]
          split <;> exact hm1'
      | true =>
        have e1 : b2i true = 1 := rfl
        by_cases c1 : t 20 k - 100 ≤ b
        · by_cases c2 : a ≤ t 21 k
          · refine ⟨m1 + 1, ?_⟩
            simp only [L_L_mayClose_5, hlt, if_false, ms0, e_2 H hk5, e_1 H hk5, e1, c1, c2, if_true, B_L_mayClose_39, e_6 H hk5, e_4 H hk5, e_3 H hk5, hl_way, B_L_mayClose_76, B_L_mayClose_103, B_L_mayClose_104, i10]
            split <;> exact hm1'
          · have c2' : t 21 k < a := by rw [i_lt]; rw [i_le] at c2; omega
            by_cases s : t 34 k = 0
            · have es : ¬ b2i (!decide (t 34 k = 0)) = 1 := by rw [decide_eq_true s]; decide +kernel
              by_cases c3 : a < t 21 k + way (t 22 k)
              · refine ⟨m1 + 1, ?_⟩
                simp only [L_L_mayClose_5, hlt, if_false, ms0, e_2 H hk5, e_1 H hk5, e1, c1, c2, c3, es, if_true, B_L_mayClose_39, e_6 H hk5, e_4 H hk5, e_3 H hk5, hl_way, B_L_mayClose_76, B_L_mayClose_103, B_L_mayClose_104, i10]
                exact hm1'
              · obtain ⟨m2, hm2⟩ := K (Or.inr ⟨c2', by rw [if_pos s]; exact c3⟩) rfl
                refine ⟨m2 + 1, ?_⟩
                simp only [L_L_mayClose_5, hlt, if_false, ms0, e_2 H hk5, e_1 H hk5, e1, c1, c2, c3, es, if_true, B_L_mayClose_39, e_6 H hk5, e_4 H hk5, e_3 H hk5, hl_way, B_L_mayClose_76, B_L_mayClose_99, B_L_mayClose_104, i10]
                exact hm2
            · have es : b2i (!decide (t 34 k = 0)) = 1 := by rw [decide_eq_false s]; rfl
              by_cases c3 : a < t 23 k
              · refine ⟨m1 + 1, ?_⟩
                simp only [L_L_mayClose_5, hlt, if_false, ms0, e_2 H hk5, e_1 H hk5, e1, c1, c2, c3, es, if_true, B_L_mayClose_39, e_6 H hk5, e_4 H hk5, e_3 H hk5, hl_way, B_L_mayClose_76, B_L_mayClose_103, B_L_mayClose_104, i10]
                exact hm1'
              · obtain ⟨m2, hm2⟩ := K (Or.inr ⟨c2', by rw [if_neg s]; exact c3⟩) rfl
                refine ⟨m2 + 1, ?_⟩
                simp only [L_L_mayClose_5, hlt, if_false, ms0, e_2 H hk5, e_1 H hk5, e1, c1, c2, c3, es, if_true, B_L_mayClose_39, e_6 H hk5, e_4 H hk5, e_3 H hk5, hl_way, B_L_mayClose_76, B_L_mayClose_99, B_L_mayClose_104, i10]
                exact hm2
        · have c1' : b < t 20 k - 100 := by rw [i_lt]; rw [i_le] at c1; omega
          obtain ⟨m2, hm2⟩ := K (Or.inl c1') rfl
          refine ⟨m2 + 1, ?_⟩
          simp only [L_L_mayClose_5, hlt, if_false, ms0, e_2 H hk5, e_1 H hk5, e1, c1, B_L_mayClose_39, e_6 H hk5, e_4 H hk5, e_3 H hk5, hl_way, B_L_mayClose_76, B_L_mayClose_99, B_L_mayClose_104, i10]
          split <;> exact hm2
  exact L 5 0 rfl true (fun _ j hj => by omega)
theorem hl_isSafe {post : Int32 → TT → Prop} (H : GS n tk fr to t) (h : post 1 (over t)) : P_L_isSafe M26 post px 0 (over t) := by
  have LI : ∀ (k7 : Nat → Int32 → Int32 → TT → Prop) (i : Nat), i < 5 → k7 0 1 (nI i + 1) (over t) → ∀ q j, j + q = i → ∃ n9, L_L_isSafe_92 M26 post px k7 n9 0 1 (nI i) (t 20 i) (t 21 i) (nI j) (over t) := by
    intro k7 i hi hk q
    induction q with
    | zero =>
      intro j hj
      have : j = i := by omega
      subst this
      refine ⟨1, ?_⟩
      simp only [L_L_isSafe_92, nle_self, if_true]
      exact hk
    | succ q ih =>
      intro j hj
      obtain ⟨m, hm⟩ := ih (j + 1) (by omega)
      have hlt : ¬ nI i ≤ nI j := nI_ge (by omega) (by omega)
      have ha := H.apart (show j < i by omega) hi
      refine ⟨m + 1, ?_⟩
      simp only [L_L_isSafe_92, hlt, i10, if_false, ms0, e_1 H (show j < 5 by omega), ha, if_true, B_L_isSafe_132, B_L_isSafe_137, nI_1]
      exact hm
  have LO : ∀ q i, i + q = 5 → ∃ n9, L_L_isSafe_7 M26 post px n9 0 1 (nI i) (over t) := by
    intro q
    induction q with
    | zero =>
      intro i hi
      have : i = 5 := by omega
      subst this
      refine ⟨1, ?_⟩
      simp only [L_L_isSafe_7]
      rw [if_pos (by decide +kernel)]
      exact ⟨isB_1, h⟩
    | succ q ih =>
      intro i hi
      have hi5 : i < 5 := by omega
      obtain ⟨m, hm⟩ := ih (i + 1) (by omega)
      have hlt : ¬ (5 : Int32) ≤ nI i := nI_ge (a := i) (b := 5) (by omega) (by omega)
      obtain ⟨-, c1, c2, c3, c4⟩ := H.bnd hi5
      obtain ⟨r1, r2⟩ := H.2.1.2.2 i hi5
      refine ⟨m + 1, ?_⟩
      simp only [L_L_isSafe_7, hlt, if_false, ms0, e_0 H hi5, e_1 H hi5, e_2 H hi5, e_4 H hi5, i10, c1, c2, c3, c4]
      refine sc_placeAnew H.1 hi5 r1 ?_
      rw [if_pos r2.symm]
      exact LI _ i hi5 (by rw [nI_1]; exact hm) i 0 (by omega)
  simp only [P_L_isSafe, ms0]
  exact ok_isSafe H (LO 5 0 rfl)
theorem hl_doors {post : TT → Prop} {x : Nat} (H : GS n tk fr to t) (hn : n ≤ 600) (hi : i < 5) (hx : x < 2 ^ 31) (h : ∀ t', GS (n + 1) tk fr to t' → post (over t')) : P_L_doors M26 post px 0 (nI i) (nI x) (over t) := by
  have h' : ∀ t', GS n tk fr to t' → post (over t') := fun t' g => h t' (g.mono (by omega))
  have r3 : nI x - nI x / 3 * 3 = nI (x % 3) := pk_rem (d := 3) hx (by omega) (by omega)
  have r5 : nI x - nI x / 5 * 5 = nI (x % 5) := pk_rem (d := 5) hx (by omega) (by omega)
  have r50 : nI x - nI x / 50 * 50 = nI (x % 50) := pk_rem (d := 50) hx (by omega) (by omega)
  obtain ⟨-, -, -, hd, -⟩ := H.1.2.2.2.1 i hi
  have i50 : ((50 : Int32) = 0) = False := eq_false (by decide +kernel)
  have i5 : ((5 : Int32) = 0) = False := eq_false (by decide +kernel)
  have tail : t 27 i = -1 → B_L_doors_51 M26 post px 0 (nI i) (nI x) (over t) := by
    intro d
    simp only [B_L_doors_51]
    refine hl_isAt H hi ?_
    cases ha : atStopS t i with
    | false =>
      simp only [b2i_0, if_true, ms0, e_3 H hi]
      by_cases c : t 22 i = 0
      · simp only [c, if_true, i5, not_false_eq_true, true_and, r5]
        have e1 : (1 : Int32) + nI (x % 5) = nI (1 + x % 5) := nI_add 1 _
        rw [e1]
        exact ok_hold H hi (by omega) (by omega) c (fun _ t' g => h' t' g)
      · simp only [c, if_false]
        exact h' t H
    | true =>
      simp only [b2i_0, Bool.true_eq_false, if_false, i50, not_false_eq_true, true_and, ms0, r50]
      exact ok_open H hi (by omega) ha d (fun _ t' g => h' t' g)
  simp only [P_L_doors, ms0, e_8 H hi]
  rcases hd with d | ⟨q, q1, d⟩
  · rw [d, if_pos (by decide +kernel)]
    refine hl_isAt H hi ?_
    cases ha : atStopS t i with
    | false =>
      simp only [b2i_0, if_true]
      exact tail d
    | true =>
      simp only [b2i_0, Bool.true_eq_false, if_false, i30, not_false_eq_true, true_and, r3]
      by_cases c : nI (x % 3) = 0
      · simp only [c, if_true, e_10 H hi]
        by_cases c2 : t 29 i = 0
        · simp only [c2, if_true]
          exact ok_depart H hn hi ha d c2 (fun _ t' g => h t' g)
        · simp only [c2, if_false]
          exact tail d
      · simp only [c, if_false]
        exact tail d
  · rw [d, if_neg (nI_pos (by omega))]
    exact ok_shut H hi (by rw [d]; exact nI_m1 (by omega)) (fun t' g => h' t' g)
end HL
