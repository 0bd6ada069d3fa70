/-! the line is laid, the trains are put in -/
def GU (n np nb nz nt : Nat) (fr to : Nat → Int32) (t : TT) : Prop := Inv n np nb nz nt 0 t ∧ SA t nz nt (fun _ => false) (fun _ => 0) ∧ (∀ z, z < nz → t 15 z = fr z ∧ t 16 z = to z ∧ t 17 z = 0) ∧ (∀ i, i < nt → 4300 - 1000 * (i : Int) ≤ (t 24 i).toInt ∧ t 34 i = 0)
section GUS
variable {t : TT} {n np nb nz nt : Nat} {fr to : Nat → Int32} {a b : Int32}
theorem GU.plat (H : GU n np nb nz nt fr to t) (h : np < 6) : GU (n + 1) (np + 1) nb nz nt fr to (platS t np a) := by
  refine ⟨platS_inv H.1 h, ?_, fun z hz => ?_, fun i hi => ?_⟩
  · unfold platS
    exact SA.up rfl (SA.up rfl (SA.up rfl H.2.1))
  · rw [platS_ne (by omega) (by omega) (by omega), platS_ne (by omega) (by omega) (by omega), platS_ne (by omega) (by omega) (by omega)]
    exact H.2.2.1 z hz
  · rw [platS_ne (by omega) (by omega) (by omega), platS_ne (by omega) (by omega) (by omega)]
    exact H.2.2.2 i hi
theorem GU.rate {i j : Nat} (H : GU n np nb nz nt fr to t) (hi : i < np) (hj : j ≤ 9) : GU n np nb nz nt fr to (up2 t 5 i (nI j)) := by
  refine ⟨H.1.plat (by omega) hi ?_, H.2.1.up rfl, H.2.2⟩
  obtain ⟨q1, q2, -⟩ := H.1.2.2.2.2.1 i hi
  unfold PlI
  simp only [up_5_1, up_5_2, up_5_3, up_5_4, up_5_6, up_5_7, up_5_8, up_5_10, up_5_11, up_5_12, up_5_13, up_5_14, up_5_15, up_5_16, up_5_17, up_5_18, up_5_19, up_5_20, up_5_21, up_5_22, up_5_23, up_5_24, up_5_25, up_5_26, up_5_27, up_5_28, up_5_29, up_5_30, up_5_31, up_5_32, up_5_33, up_5_34, up_5_35, up_5_36, up2_same]
  exact ⟨q1, q2, j, hj, rfl⟩
theorem GU.bea (H : GU n np nb nz nt fr to t) (h : nb < 12) : GU (n + 1) np (nb + 1) nz nt fr to (beaS t nb a) := by
  refine ⟨beaS_inv H.1 h, ?_, fun z hz => ?_, fun i hi => ?_⟩
  · unfold beaS
    exact SA.up rfl (SA.up rfl (SA.up rfl (SA.up rfl H.2.1)))
  · rw [beaS_ne (by omega) (by omega) (by omega) (by omega), beaS_ne (by omega) (by omega) (by omega) (by omega), beaS_ne (by omega) (by omega) (by omega) (by omega)]
    exact H.2.2.1 z hz
  · rw [beaS_ne (by omega) (by omega) (by omega) (by omega), beaS_ne (by omega) (by omega) (by omega) (by omega)]
    exact H.2.2.2 i hi
theorem zonS_15 : zonS t nz a b 15 nz = a := by
  unfold zonS
  rw [up2_ne (by omega), up2_ne (by omega), up2_same]
theorem zonS_16 : zonS t nz a b 16 nz = b := by
  unfold zonS
  rw [up2_ne (by omega), up2_same]
theorem GU.zon (H : GU n np nb nz 0 fr to t) (h : nz < 4) (h1 : 0 ≤ a.toInt) (h2 : a.toInt < b.toInt) (h3 : b.toInt ≤ 5000) (ha : fr nz = a) (hb : to nz = b) : GU (n + 1) np nb (nz + 1) 0 fr to (zonS t nz a b) := by
  refine ⟨zonS_inv H.1 h, ⟨⟨fun i hi => by omega, fun i hi => by omega, fun z i _ hi => by omega⟩, fun z hz => ?_, fun i hi => by omega⟩, fun z hz => ?_, fun i hi => by omega⟩
  · by_cases e : z = nz
    · subst e
      rw [zonS_15, zonS_16]
      exact ⟨h1, h2, h3⟩
    · rw [zonS_ne (by omega) (by omega) (by omega) (by omega), zonS_ne (by omega) (by omega) (by omega) (by omega)]
      exact H.2.1.2.1 z (by omega)
  · by_cases e : z = nz
    · subst e
      rw [zonS_15, zonS_16, zonS_ne (by omega) (by omega) (by omega) (by omega)]
      exact ⟨ha.symm, hb.symm, (H.1.2.2.2.2.2.2.2.2.2.2.2 z (Nat.le_refl z)).2.2⟩
    · rw [zonS_ne (by omega) (by omega) (by omega) (by omega), zonS_ne (by omega) (by omega) (by omega) (by omega), zonS_ne (by omega) (by omega) (by omega) (by omega)]
      exact H.2.2.1 z (by omega)
theorem traS_at : traS t nt 0 a 19 nt = a ∧ traS t nt 0 a 20 nt = a ∧ traS t nt 0 a 21 nt = a ∧ traS t nt 0 a 24 nt = a ∧ traS t nt 0 a 31 nt = a ∧ traS t nt 0 a 32 nt = nI 0 := by
  unfold traS
  refine ⟨?_, ?_, ?_, ?_, ?_, ?_⟩
  · rw [up2_ne (by omega), up2_ne (by omega), up2_ne (by omega), up2_ne (by omega), up2_ne (by omega), up2_ne (by omega), up2_ne (by omega), up2_ne (by omega), up2_same]
  · rw [up2_ne (by omega), up2_ne (by omega), up2_ne (by omega), up2_ne (by omega), up2_ne (by omega), up2_ne (by omega), up2_ne (by omega), up2_same]
  · rw [up2_ne (by omega), up2_ne (by omega), up2_ne (by omega), up2_ne (by omega), up2_ne (by omega), up2_ne (by omega), up2_same]
  · rw [up2_ne (by omega), up2_ne (by omega), up2_ne (by omega), up2_ne (by omega), up2_ne (by omega), up2_same]
  · rw [up2_ne (by omega), up2_ne (by omega), up2_same]
  · rw [up2_ne (by omega), up2_same]
theorem GU.can {m : Nat} (H : GU n np nb nz nt fr to t) (ha : a = nI m) (hm : m ≤ 4799) (h2 : (m : Int) ≤ 4799 - 1000 * (nt : Int)) : (allB (okT t a) nt && allB (okZ t a) nz) = true := by
  have hm9 : a.toInt = (m : Int) := by rw [ha]; exact i_n (by omega)
  have K1 : ∀ k, k ≤ nt → allB (okT t a) k = true := by
    intro k
    induction k with
    | zero => intro _; rfl
    | succ k ih =>
      intro hk
      unfold allB
      rw [ih (by omega), Bool.true_and]
      obtain ⟨r1, r2⟩ := H.2.2.2 k (by omega)
      obtain ⟨a1, a2, a3, ⟨v, v1, v2, v3⟩, a5, a6, a7⟩ := H.2.1.1.1 k (by omega)
      have b0 := sB_0 false v1
      have v3 : (t 21 k).toInt + sB false v ≤ (t 23 k).toInt := v3
      have c1 : a ≤ t 19 k := by rw [i_le]; omega
      have c2 : ¬ t 24 k - 120 < a := by
        rw [i_lt, i_sub (by rw [i_120]; omega) (by rw [i_120]; omega), i_120]
        omega
      unfold okT
      simp [c1, c2]
  have K2 : ∀ k, k ≤ nz → allB (okZ t a) k = true := by
    intro k
    induction k with
    | zero => intro _; rfl
    | succ k ih =>
      intro hk
      unfold allB
      rw [ih (by omega), Bool.true_and]
      unfold okZ
      rw [if_pos (H.2.2.1 k (by omega)).2.2]
  rw [K1 nt (Nat.le_refl _), K2 nz (Nat.le_refl _)]
  rfl
theorem GU.tra {m : Nat} (H : GU n np nb nz nt fr to t) (h5 : nt < 5) (ha : a = nI m) (hm : m ≤ 4799) (h1 : 4300 - 1000 * (nt : Int) ≤ (m : Int)) (h2 : (m : Int) ≤ 4799 - 1000 * (nt : Int)) : GU (n + 1) np nb nz (nt + 1) fr to (dealR (traS t nt 0 a) (nt + 1) nz (nt + 1)) := by
  have hm9 : a.toInt = (m : Int) := by rw [ha]; exact i_n (by omega)
  obtain ⟨e19, e20, e21, e24, e31, e32⟩ := traS_at (t := t) (nt := nt) (a := a)
  have nz9 : ∀ k i, k ≠ 0 → k ≠ 18 → i ≠ nt → traS t nt 0 a k i = t k i := fun k i g1 g2 g3 => traS_ne (Or.inr ⟨g1, g2, g3⟩)
  have n15 : ∀ z, traS t nt 0 a 15 z = t 15 z := fun z => traS_ne (Or.inl rfl)
  have n16 : ∀ z, traS t nt 0 a 16 z = t 16 z := fun z => traS_ne (Or.inl rfl)
  have n17 : ∀ z, traS t nt 0 a 17 z = t 17 z := fun z => traS_ne (Or.inl rfl)
  have n22 : traS t nt 0 a 22 nt = 0 := (traS_ne (Or.inl rfl)).trans (H.1.2.2.2.2.2.2.2.1 22 nt (Nat.le_refl _) (by omega) (by omega))
  have n34 : traS t nt 0 a 34 nt = 0 := (traS_ne (Or.inl rfl)).trans (H.1.2.2.2.2.2.2.2.1 34 nt (Nat.le_refl _) (by omega) (by omega))
  have n36 : ∀ j, traS t nt 0 a 36 j = t 36 j := fun z => traS_ne (Or.inl rfl)
  have I1 := traS_inv (a := a) H.1 h5
  refine ⟨I1.deal9 (nt + 1) (Nat.le_refl _), deal_SA (by omega) (fun i hi => ?_) (fun z hz => ?_) (fun i hi => ?_), fun z hz => ?_, fun i hi => ?_⟩
  · by_cases e : i = nt
    · subst e
      unfold PrT
      rw [e20, e19, e21, e24]
      refine ⟨by omega, Int.le_refl _, Int.le_refl _, by omega, Int.le_refl _, 0, by omega, n22.trans nI_0.symm, ?_, fun h => ?_, fun z hz hc => ?_, fun hs => absurd n34 hs⟩
      · have : bkI 0 = 0 := rfl
        omega
      · have : bkI 0 = 0 := rfl
        rw [nz9 24 (i - 1) (by omega) (by omega) (by omega)]
        have := (H.2.2.2 (i - 1) (by omega)).1
        omega
      · rw [n17] at hc
        exact absurd (H.2.2.1 z hz).2.2 hc
    · have hi2 : i < nt := by omega
      obtain ⟨a1, a2, a3, a4, a5, v, v1, v2, v3, v4, v5, v6⟩ := H.2.1.1.pre hi2
      unfold PrT
      rw [nz9 20 i (by omega) (by omega) e, nz9 19 i (by omega) (by omega) e, nz9 21 i (by omega) (by omega) e, nz9 24 i (by omega) (by omega) e, nz9 22 i (by omega) (by omega) e, nz9 24 (i - 1) (by omega) (by omega) (by omega)]
      refine ⟨a1, a2, a3, a4, a5, v, v1, v2, v3, v4, fun z hz hc => ?_, fun hs => ?_⟩
      · rw [n17] at hc
        exact absurd (H.2.2.1 z hz).2.2 hc
      · rw [nz9 34 i (by omega) (by omega) e] at hs
        exact absurd (H.2.2.2 i hi2).2 hs
  · rw [n15, n16]; exact H.2.1.2.1 z hz
  · by_cases e : i = nt
    · subst e
      exact ⟨e32, e19.trans e31.symm⟩
    · obtain ⟨r1, r2⟩ := H.2.1.2.2 i (by omega)
      rw [nz9 32 i (by omega) (by omega) e, nz9 19 i (by omega) (by omega) e, sumR_congr (nz9 31 i (by omega) (by omega) e) _ (fun q _ => n36 _)]
      exact ⟨r1, r2⟩
  · rw [dealR_ne (by omega), dealR_ne (by omega), dealR_ne (by omega), n15, n16, n17]
    exact H.2.2.1 z hz
  · rw [dealR_ne (by omega), dealR_ne (by omega)]
    by_cases e : i = nt
    · subst e
      rw [e24, n34]
      exact ⟨by omega, rfl⟩
    · rw [nz9 24 i (by omega) (by omega) e, nz9 34 i (by omega) (by omega) e]
      exact H.2.2.2 i (by omega)
theorem GU.done (H : GU n 6 12 4 5 fr to t) : GS n 0 fr to t := ⟨H.1, H.2.1, fun z hz => ⟨(H.2.2.1 z hz).1, (H.2.2.1 z hz).2.1⟩⟩
end GUS
