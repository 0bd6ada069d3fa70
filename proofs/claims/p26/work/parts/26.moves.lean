/-! a train goes, people board: both sides -/
theorem k1000 {i tk : Nat} : (1000 : Int32) * nI i + nI tk = nI (1000 * i + tk) := by
  show nI 1000 * nI i + nI tk = _
  rw [pk_mul, nI_add]
theorem byte_dec : ∀ f, f < 128 → vp_nar .byte (nI f).toInt8.toInt32 = nI f := vy_I
theorem oo19 : (19 != 9 && 19 != 40 && 19 != 0 && 19 != 7) = true := rfl
theorem oo20 : (20 != 9 && 20 != 40 && 20 != 0 && 20 != 7) = true := rfl
theorem oo21 : (21 != 9 && 21 != 40 && 21 != 0 && 21 != 7) = true := rfl
theorem oo35 : (35 != 9 && 35 != 40 && 35 != 0 && 35 != 7) = true := rfl
theorem oo36 : (36 != 9 && 36 != 40 && 36 != 0 && 36 != 7) = true := rfl
theorem oo6 : (6 != 9 && 6 != 40 && 6 != 0 && 6 != 7) = true := rfl
theorem oo28 : (28 != 9 && 28 != 40 && 28 != 0 && 28 != 7) = true := rfl
theorem oo24 : (24 != 9 && 24 != 40 && 24 != 0 && 24 != 7) = true := rfl
theorem oo29 : (29 != 9 && 29 != 40 && 29 != 0 && 29 != 7) = true := rfl
theorem goV_perm {u : TT} {a k : Nat} {x y p q r : Int32} : up2 (up2 (up2 (up2 (up2 u 35 a x) 36 a y) 19 k p) 20 k q) 21 k r = up2 (up2 (up2 (up2 (up2 u 19 k p) 20 k q) 21 k r) 35 a x) 36 a y := by
  funext c d
  simp only [up2]
  repeat' split
  all_goals first | rfl | omega
section GO
variable {px : String → TT → Prop} {t : TT} {n np nb nz nt tk : Nat}
theorem far_rng {i : Nat} (hI : Inv n np nb nz nt tk t) (hi : i < nt) : ∃ f, f ≤ 21 ∧ farS t i = nI f := by
  obtain ⟨⟨s, s1, s2⟩, h2, -⟩ := hI.2.2.2.1 i hi
  unfold farS
  rw [s2]
  by_cases e : s = 0
  · subst e
    exact ⟨0, by omega, by rw [if_pos nI_0, nI_0]⟩
  · rw [if_neg (nI_ne0 (by omega) (by omega))]
    obtain ⟨r, rfl⟩ : ∃ r, s = r + 1 := ⟨s - 1, by omega⟩
    rcases h2 with h2 | h2 | h2
    · exact ⟨r, by omega, by rw [h2, pk_m1]⟩
    · exact ⟨r + 1, by omega, by rw [h2, Int32.add_zero]⟩
    · exact ⟨r + 2, by omega, by rw [h2, nI_1]⟩
theorem pc_meetsBeacon {post : Int32 → TT → Prop} {a b : Int32} (hc : Cnt t np nb nz nt) (h : post (b2i (anyB (metB t a b) nb)) (over t)) : P_X4_meetsBeacon (MS np nb nz nt) post px 0 a b (over t) := by
  obtain ⟨-, -, hb, h12, -⟩ := hc
  have L : ∀ m k, k + m = nb → anyB (metB t a b) k = false → ∃ n, L_X4_meetsBeacon_2 (MS np nb nz nt) post px n 0 a b (nI k) (over t) := by
    intro m
    induction m with
    | zero =>
      intro k hk hf
      have : k = nb := by omega
      subst this
      refine ⟨1, ?_⟩
      rw [hf] at h
      simp only [L_X4_meetsBeacon_2, ms0, ov_1, ov_2, ov_3, ov_4, ov_5, ov_6, ov_7, ov_8, ov_10, ov_11, ov_12, ov_13, ov_14, ov_15, ov_16, ov_17, ov_18, ov_19, ov_20, ov_21, ov_22, ov_23, ov_24, ov_25, ov_26, ov_27, ov_28, ov_29, ov_30, ov_31, ov_32, ov_33, ov_34, ov_35, ov_36, hb, nle_self, if_true, isB_0, true_and]
      exact h
    | succ m ih =>
      intro k hk hf
      have hvk := vp0 (n := k) (N := 12) (by omega) (by omega)
      have hck := cl0 (n := k) (by omega)
      have hkt : k < nb := by omega
      have hlt : ¬ nI nb ≤ nI k := nI_ge (by omega) (by omega)
      cases ho : metB t a b k with
      | true =>
        rw [anyB_t ho nb hkt] at h
        refine ⟨1, ?_⟩
        simp only [metB, Bool.and_eq_true, Bool.not_eq_true', decide_eq_false_iff_not] at ho
        simp only [L_X4_meetsBeacon_2, B_X4_meetsBeacon_46, ms0, MS_2, MS_6, ov_1, ov_2, ov_3, ov_4, ov_5, ov_6, ov_7, ov_8, ov_10, ov_11, ov_12, ov_13, ov_14, ov_15, ov_16, ov_17, ov_18, ov_19, ov_20, ov_21, ov_22, ov_23, ov_24, ov_25, ov_26, ov_27, ov_28, ov_29, ov_30, ov_31, ov_32, ov_33, ov_34, ov_35, ov_36, hb, hlt, hvk, hck, hkt, ho.1.1, ho.1.2, ho.2, if_false, true_and, isB_1]
        exact h
      | false =>
        obtain ⟨n, hn⟩ := ih (k + 1) (by omega) (by unfold anyB; rw [hf, ho]; rfl)
        refine ⟨n + 1, ?_⟩
        simp only [L_X4_meetsBeacon_2, B_X4_meetsBeacon_46, ms0, MS_2, MS_6, ov_1, ov_2, ov_3, ov_4, ov_5, ov_6, ov_7, ov_8, ov_10, ov_11, ov_12, ov_13, ov_14, ov_15, ov_16, ov_17, ov_18, ov_19, ov_20, ov_21, ov_22, ov_23, ov_24, ov_25, ov_26, ov_27, ov_28, ov_29, ov_30, ov_31, ov_32, ov_33, ov_34, ov_35, ov_36, hb, hlt, hvk, hck, hkt, if_false, true_and, nI_1]
        by_cases h1 : t 13 k = 0
        · simp only [h1, if_true]; exact hn
        · by_cases h2 : t 12 k ≤ a
          · simp only [h1, h2, if_true, if_false]; exact hn
          · by_cases h3 : b < t 12 k
            · simp only [h1, h2, h3, if_true, if_false]; exact hn
            · simp [metB, h1, h2, h3] at ho
  exact L nb 0 (by omega) rfl
theorem pc_go {post : TT → Prop} {i : Nat} (hI : Inv n np nb nz nt tk t) (hi : i < nt) (h : post (over (goV t tk i))) : P_X2_go (MS np nb nz nt) post px i (nI tk) (over t) := by
  obtain ⟨⟨s, s1, s2⟩, -⟩ := hI.2.2.2.1 i hi
  have htk := hI.2.1.2
  obtain ⟨f, f1, f2⟩ := far_rng hI hi
  have hvk := vp0 (n := tk) (N := 1000) (by omega) (by omega)
  have hck := cl0 (n := tk) (by omega)
  have hn0 : ¬ nI tk < 0 := nI_pos (by omega)
  have h1000 : ¬ (1000 : Int32) ≤ nI tk := nI_ge (a := tk) (b := 1000) (by omega) (by omega)
  have hb1 := byte_dec s (by omega)
  have hb2 := byte_dec f (by omega)
  unfold goV at h
  simp only [B_X2_go_100, B_X2_go_59, P_X2_go, MS_8, MS_9, MS_10, ov_1, ov_2, ov_3, ov_4, ov_5, ov_6, ov_7, ov_8, ov_10, ov_11, ov_12, ov_13, ov_14, ov_15, ov_16, ov_17, ov_18, ov_19, ov_20, ov_21, ov_22, ov_23, ov_24, ov_25, ov_26, ov_27, ov_28, ov_29, ov_30, ov_31, ov_32, ov_33, ov_34, ov_35, ov_36, hi, true_and, hn0, h1000, hvk, hck, if_false, up_19_1, up_19_2, up_19_3, up_19_4, up_19_5, up_19_6, up_19_7, up_19_8, up_19_10, up_19_11, up_19_12, up_19_13, up_19_14, up_19_15, up_19_16, up_19_17, up_19_18, up_19_20, up_19_21, up_19_22, up_19_23, up_19_24, up_19_25, up_19_26, up_19_27, up_19_28, up_19_29, up_19_30, up_19_31, up_19_32, up_19_33, up_19_34, up_19_35, up_19_36, up_20_1, up_20_2, up_20_3, up_20_4, up_20_5, up_20_6, up_20_7, up_20_8, up_20_10, up_20_11, up_20_12, up_20_13, up_20_14, up_20_15, up_20_16, up_20_17, up_20_18, up_20_19, up_20_21, up_20_22, up_20_23, up_20_24, up_20_25, up_20_26, up_20_27, up_20_28, up_20_29, up_20_30, up_20_31, up_20_32, up_20_33, up_20_34, up_20_35, up_20_36, up_21_1, up_21_2, up_21_3, up_21_4, up_21_5, up_21_6, up_21_7, up_21_8, up_21_10, up_21_11, up_21_12, up_21_13, up_21_14, up_21_15, up_21_16, up_21_17, up_21_18, up_21_19, up_21_20, up_21_22, up_21_23, up_21_24, up_21_25, up_21_26, up_21_27, up_21_28, up_21_29, up_21_30, up_21_31, up_21_32, up_21_33, up_21_34, up_21_35, up_21_36, over_up oo19, over_up oo20, over_up oo21, over_up oo35, over_up oo36]
  by_cases e : s = 0
  · subst e
    rw [nI_0] at s2
    have hf0 : farS t i = 0 := if_pos s2
    rw [hf0, s2, if_pos rfl, if_pos rfl, Int32.add_zero, Int32.add_zero, Int32.add_zero] at h
    have b0 : vp_nar .byte (0 : Int32).toInt8.toInt32 = 0 := by decide +kernel
    simp only [s2, Int32.le_refl, if_true, b0]
    rw [goV_perm, up2_self rfl, up2_self rfl, up2_self rfl] at h
    exact h
  · have hz := nI_ne0 (n := s) (by omega) (by omega)
    have hle : ¬ nI s ≤ 0 := nI_nle (by omega) (by omega)
    have hf0 : t 22 i + t 25 i = nI f := by rw [← f2]; unfold farS; rw [if_neg (by rw [s2]; exact hz)]
    rw [goV_perm, f2, if_neg (by rw [s2]; exact hz), if_neg (by rw [s2]; exact hz)] at h
    rw [s2] at hf0
    simp only [s2, hf0, hle, if_false, hb1, hb2] at h ⊢
    exact h
theorem pc_move {post : TT → Prop} {i : Nat} (hI : Inv n np nb nz nt tk t) (hi : i < nt) (h : post (over (goU tk nb t i))) : P_X4_move (MS np nb nz nt) post px 0 i (over t) := by
  have ht1 := hI.2.1.1
  have g19 : goV t tk i 19 i = t 19 i + farS t i := by simp only [goV, up_20_1, up_20_2, up_20_3, up_20_4, up_20_5, up_20_6, up_20_7, up_20_8, up_20_10, up_20_11, up_20_12, up_20_13, up_20_14, up_20_15, up_20_16, up_20_17, up_20_18, up_20_19, up_20_21, up_20_22, up_20_23, up_20_24, up_20_25, up_20_26, up_20_27, up_20_28, up_20_29, up_20_30, up_20_31, up_20_32, up_20_33, up_20_34, up_20_35, up_20_36, up_21_1, up_21_2, up_21_3, up_21_4, up_21_5, up_21_6, up_21_7, up_21_8, up_21_10, up_21_11, up_21_12, up_21_13, up_21_14, up_21_15, up_21_16, up_21_17, up_21_18, up_21_19, up_21_20, up_21_22, up_21_23, up_21_24, up_21_25, up_21_26, up_21_27, up_21_28, up_21_29, up_21_30, up_21_31, up_21_32, up_21_33, up_21_34, up_21_35, up_21_36, up2_same]
  have em : ∀ a b, anyB (metB (goV t tk i) a b) nb = anyB (metB t a b) nb := fun a b => rfl
  simp only [P_X4_move, B_X4_move_41, ms0, MS_8, ov_1, ov_2, ov_3, ov_4, ov_5, ov_6, ov_7, ov_8, ov_10, ov_11, ov_12, ov_13, ov_14, ov_15, ov_16, ov_17, ov_18, ov_19, ov_20, ov_21, ov_22, ov_23, ov_24, ov_25, ov_26, ov_27, ov_28, ov_29, ov_30, ov_31, ov_32, ov_33, ov_34, ov_35, ov_36, hi, true_and, ht1]
  refine pc_go hI hi ?_
  simp only [ov_1, ov_2, ov_3, ov_4, ov_5, ov_6, ov_7, ov_8, ov_10, ov_11, ov_12, ov_13, ov_14, ov_15, ov_16, ov_17, ov_18, ov_19, ov_20, ov_21, ov_22, ov_23, ov_24, ov_25, ov_26, ov_27, ov_28, ov_29, ov_30, ov_31, ov_32, ov_33, ov_34, ov_35, ov_36, g19]
  refine pc_meetsBeacon (goV_inv hi hI).1 ?_
  rw [em]
  unfold goU at h
  cases hm : anyB (metB t (t 19 i) (t 19 i + farS t i)) nb with
  | false =>
    rw [hm] at h
    simp only [b2i, Bool.false_eq_true, if_false, if_true] at h ⊢
    exact h
  | true =>
    rw [hm] at h
    simp only [b2i, if_true, i10, if_false, over_up oo20, over_up oo21, ov_1, ov_2, ov_3, ov_4, ov_5, ov_6, ov_7, ov_8, ov_10, ov_11, ov_12, ov_13, ov_14, ov_15, ov_16, ov_17, ov_18, ov_19, ov_20, ov_21, ov_22, ov_23, ov_24, ov_25, ov_26, ov_27, ov_28, ov_29, ov_30, ov_31, ov_32, ov_33, ov_34, ov_35, ov_36, up_20_19] at h ⊢
    exact h
theorem mmin3 {a w q : Nat} (ha : a < 2 ^ 31) (hw : w < 2 ^ 31) (hq : q < 2 ^ 31) : mmin (nI a) (mmin (nI w) (nI q)) = nI (min (min a w) q) := by
  rw [nI_min hw hq, nI_min ha (by omega), Nat.min_assoc]
theorem pc_takePeople {post : TT → Prop} {i : Nat} (hI : Inv n np nb nz nt tk t) (hi : i < nt) (h : post (over (boardU t i))) : P_X2_takePeople (MS np nb nz nt) post px i (over t) := by
  obtain ⟨-, -, hs, h4, hso, -⟩ := hI.2.2.2.1 i hi
  have h6 := hI.1.2.1
  simp only [P_X2_takePeople, B_X2_takePeople_69, MS_8, ov_1, ov_2, ov_3, ov_4, ov_5, ov_6, ov_7, ov_8, ov_10, ov_11, ov_12, ov_13, ov_14, ov_15, ov_16, ov_17, ov_18, ov_19, ov_20, ov_21, ov_22, ov_23, ov_24, ov_25, ov_26, ov_27, ov_28, ov_29, ov_30, ov_31, ov_32, ov_33, ov_34, ov_35, ov_36, hi, true_and, pc_hasOpenDoors hi, b2i_0]
  by_cases hd : t 27 i = -1
  · unfold boardU at h
    rw [if_pos hd] at h
    by_cases e : t 26 i = -1
    · simp only [e, if_true]; exact h
    · simp only [e, hd, if_true, if_false, decide_true, Bool.not_true]; exact h
  · have hq := hso hd
    obtain ⟨p, p1, p2⟩ := hs.resolve_left hq
    have hcp := cl0 (n := p) (by omega)
    obtain ⟨a, w, q, w1, q1, w2, q2, a2, a1, hm⟩ := many_rng hi hI hd p2 p1
    obtain ⟨d, d1, d2⟩ := h4.resolve_left hd
    have hn1 := nI_m1 (n := p) (by omega)
    have hd1 := nI_m1 (n := d) (by omega)
    unfold boardU at h
    rw [if_neg hd, hm, p2, hcp] at h
    have hb : 2 * bitc (nI d) = nI a := by rw [ones_bitc d (by omega), ← d2]; exact a2
    have h120 : 120 - nI q = nI (120 - q) := pk_sub (a := 120) q1
    simp only [p2, hn1, hcp, p1, d2, hd1, hb, w2, q2, h120, mmin3 (show a < 2 ^ 31 by omega) (show w < 2 ^ 31 by omega) (show 120 - q < 2 ^ 31 by omega), if_false, true_and, not_false_eq_true, decide_false, Bool.not_false, Bool.true_eq_false, MS_5, over_up oo6, over_up oo28, ov_1, ov_2, ov_3, ov_4, ov_5, ov_6, ov_7, ov_8, ov_10, ov_11, ov_12, ov_13, ov_14, ov_15, ov_16, ov_17, ov_18, ov_19, ov_20, ov_21, ov_22, ov_23, ov_24, ov_25, ov_26, ov_27, ov_28, ov_29, ov_30, ov_31, ov_32, ov_33, ov_34, ov_35, ov_36, up_6_1, up_6_2, up_6_3, up_6_4, up_6_5, up_6_7, up_6_8, up_6_10, up_6_11, up_6_12, up_6_13, up_6_14, up_6_15, up_6_16, up_6_17, up_6_18, up_6_19, up_6_20, up_6_21, up_6_22, up_6_23, up_6_24, up_6_25, up_6_26, up_6_27, up_6_28, up_6_29, up_6_30, up_6_31, up_6_32, up_6_33, up_6_34, up_6_35, up_6_36] at h ⊢
    exact h
end GO
