/-! WHAT KEEPS THE TRAINS APART: each can stop ahead of its LIMIT, each LIMIT lies behind the REPORT of the one ahead and ahead of closed ZONES; the dealing out of LIMITS keeps it -/
def wyI (v : Nat) : Int := ((v * (v + 1) / 2 + v : Nat) : Int)
def bkI (v : Nat) : Int := match v with
  | 0 => 0
  | v + 1 => wyI v
theorem wy_dec : ∀ v, v < 22 → (way (nI v)).toInt = wyI v := by decide +kernel
theorem wy_bk : ∀ v, v < 22 → 0 ≤ bkI v ∧ bkI v ≤ wyI v ∧ wyI v ≤ 260 ∧ (1 ≤ v → wyI v = (v : Int) + 1 + bkI v) ∧ wyI (v - 3) ≤ bkI v := by decide +kernel
def sB (s : Bool) (v : Nat) : Int := if s = true then wyI v else bkI v
theorem sB_0 (s : Bool) {v : Nat} (h : v ≤ 20) : 0 ≤ sB s v ∧ bkI v ≤ sB s v := by
  obtain ⟨h1, h2, -⟩ := wy_bk v (by omega)
  unfold sB
  split <;> omega
def TrS (t : TT) (s : Bool) (i : Nat) : Prop := 0 ≤ (t 20 i).toInt ∧ (t 20 i).toInt ≤ (t 19 i).toInt ∧ (t 19 i).toInt ≤ (t 21 i).toInt ∧ (∃ v, v ≤ 20 ∧ t 22 i = nI v ∧ (t 21 i).toInt + sB s v ≤ (t 23 i).toInt) ∧ (t 23 i).toInt ≤ 5000 ∧ 0 ≤ (t 24 i).toInt ∧ (t 24 i).toInt ≤ (t 20 i).toInt
def ClS (t : TT) (z i : Nat) : Prop := ¬ t 17 z = 0 → (t 15 z).toInt < (t 20 i).toInt ∨ ((t 21 i).toInt ≤ (t 15 z).toInt ∧ (t 23 i).toInt ≤ (t 15 z).toInt)
def SF (t : TT) (nz nt : Nat) (w : Nat → Bool) : Prop := (∀ i, i < nt → TrS t (w i) i) ∧ (∀ i, i + 1 < nt → (t 23 (i + 1)).toInt ≤ (t 24 i).toInt - 120) ∧ (∀ z i, z < nz → i < nt → ClS t z i)
def ZnS (t : TT) (nz : Nat) : Prop := ∀ z, z < nz → 0 ≤ (t 15 z).toInt ∧ (t 15 z).toInt < (t 16 z).toInt ∧ (t 16 z).toInt ≤ 5000
def RcS (t : TT) (nt : Nat) (g : Nat → Nat) : Prop := ∀ i, i < nt → t 32 i = nI 0 ∧ t 19 i = sumR t i 0 (g i)
def SA (t : TT) (nz nt : Nat) (w : Nat → Bool) (g : Nat → Nat) : Prop := SF t nz nt w ∧ ZnS t nz ∧ RcS t nt g
def rs (k : Nat) : Bool := k == 15 || k == 16 || k == 17 || (Nat.ble 19 k && Nat.ble k 24) || k == 31 || k == 32 || k == 36
def rt (k : Nat) : Bool := Nat.ble 19 k && Nat.ble k 24
theorem rt_le {k : Nat} (h : rt k = true) : 19 ≤ k ∧ k ≤ 24 := by
  unfold rt at h
  simp only [Bool.and_eq_true] at h
  exact ⟨Nat.le_of_ble_eq_true h.1, Nat.le_of_ble_eq_true h.2⟩
theorem rs_rt {k : Nat} (h : rt k = true) : rs k = true := by
  unfold rt at h
  unfold rs
  rw [h]
  simp
theorem sumR_congr {t t' : TT} {i p : Nat} (h1 : t' 31 i = t 31 i) : ∀ m, (∀ q, q < m → t' 36 (1000 * i + (p + 1 + q)) = t 36 (1000 * i + (p + 1 + q))) → sumR t' i p m = sumR t i p m
  | 0, _ => h1
  | m + 1, h => by
    unfold sumR
    rw [sumR_congr h1 m (fun q hq => h q (by omega)), h m (by omega)]
section SAF
variable {t t' : TT} {nz nt i : Nat} {w w' : Nat → Bool} {g g' : Nat → Nat}
theorem TrS.congr {s : Bool} (h : ∀ k, rt k = true → t' k i = t k i) (H : TrS t s i) : TrS t' s i := by
  unfold TrS
  rw [h 20 rfl, h 19 rfl, h 21 rfl, h 22 rfl, h 23 rfl, h 24 rfl]
  exact H
theorem SA.congr (h : ∀ k i, rs k = true → t' k i = t k i) (H : SA t nz nt w g) : SA t' nz nt w g := by
  obtain ⟨⟨h1, h2, h3⟩, h4, h5⟩ := H
  refine ⟨⟨fun i hi => (h1 i hi).congr (fun k hk => h k i (rs_rt hk)), fun i hi => ?_, fun z i hz hi => ?_⟩, fun z hz => ?_, fun i hi => ?_⟩
  · rw [h 23 _ rfl, h 24 _ rfl]; exact h2 i hi
  · unfold ClS
    rw [h 17 _ rfl, h 15 _ rfl, h 20 _ rfl, h 21 _ rfl, h 23 _ rfl]
    exact h3 z i hz hi
  · rw [h 15 _ rfl, h 16 _ rfl]; exact h4 z hz
  · rw [h 32 _ rfl, h 19 _ rfl, sumR_congr (h 31 _ rfl) _ (fun q _ => h 36 _ rfl)]
    exact h5 i hi
theorem SA.up {k j : Nat} {v : Int32} (hk : rs k = false) (H : SA t nz nt w g) : SA (up2 t k j v) nz nt w g := H.congr fun k' i' h => up2_ne fun z => by rw [z.1, hk] at h; cases h
theorem SA.wc (h : ∀ i, i < nt → w' i = w i) (hg : ∀ i, i < nt → g' i = g i) (H : SA t nz nt w g) : SA t nz nt w' g' := ⟨⟨fun i hi => by rw [h i hi]; exact H.1.1 i hi, H.1.2⟩, H.2.1, fun i hi => by rw [hg i hi]; exact H.2.2 i hi⟩
/-- what a dealing out asks for -/
def PrT (t : TT) (nz i : Nat) : Prop := 0 ≤ (t 20 i).toInt ∧ (t 20 i).toInt ≤ (t 19 i).toInt ∧ (t 19 i).toInt ≤ (t 21 i).toInt ∧ 0 ≤ (t 24 i).toInt ∧ (t 24 i).toInt ≤ (t 20 i).toInt ∧ ∃ v, v ≤ 20 ∧ t 22 i = nI v ∧ (t 21 i).toInt + bkI v ≤ 5000 ∧ (1 ≤ i → (t 21 i).toInt + bkI v ≤ (t 24 (i - 1)).toInt - 120) ∧ (∀ z, z < nz → ¬ t 17 z = 0 → (t 15 z).toInt < (t 20 i).toInt ∨ (t 21 i).toInt + bkI v ≤ (t 15 z).toInt) ∧ (¬ t 34 i = 0 → (t 21 i).toInt + bkI v ≤ (t 23 i).toInt ∧ (t 23 i).toInt ≤ 5000 ∧ (1 ≤ i → (t 23 i).toInt ≤ (t 24 (i - 1)).toInt - 120) ∧ ∀ z, z < nz → ClS t z i)
theorem SF.pre (H : SF t nz nt w) (hi : i < nt) : PrT t nz i := by
  obtain ⟨h1, h2, h3⟩ := H
  obtain ⟨a1, a2, a3, ⟨v, v1, v2, v3⟩, a5, a6, a7⟩ := h1 i hi
  have b0 := sB_0 (w i) v1
  have hr : 1 ≤ i → (t 23 i).toInt ≤ (t 24 (i - 1)).toInt - 120 := fun h => by
    have := h2 (i - 1) (by omega)
    rw [show i - 1 + 1 = i by omega] at this
    exact this
  have b1 : (t 21 i).toInt + bkI v ≤ (t 23 i).toInt := by omega
  refine ⟨a1, a2, a3, a6, a7, v, v1, v2, by omega, fun h => by have := hr h; omega, fun z hz hc => ?_, fun _ => ⟨b1, a5, hr, fun z hz => h3 z i hz hi⟩⟩
  rcases h3 z i hz hi hc with q | q
  · exact Or.inl q
  · exact Or.inr (by omega)
theorem PrT.chain (H : ∀ i, i < nt → PrT t nz i) : ∀ i j, j < i → i < nt → (t 21 i).toInt ≤ (t 20 j).toInt - 120
  | 0, j, h, _ => by omega
  | i + 1, j, h, hi => by
    obtain ⟨a1, a2, a3, a4, a5, v, v1, v2, v3, v4, -⟩ := H (i + 1) hi
    obtain ⟨b0, -⟩ := wy_bk v (by omega)
    have e := v4 (by omega)
    rw [show i + 1 - 1 = i by omega] at e
    obtain ⟨c1, c2, c3, c4, c5, -⟩ := H i (by omega)
    by_cases q : j = i
    · subst q; omega
    · have := PrT.chain H i j (by omega) (by omega)
      omega
def nx : Nat → Int32
  | 0 => -1
  | j + 1 => nI j
theorem nextR_at (hd : ∀ i j, j < i → i < nt → (t 19 i).toInt < (t 19 j).toInt) (h5 : nt ≤ 5) (hi : i < nt) : ∀ k, k ≤ nt → nextR t i k = nx (min k i)
  | 0, _ => by rw [Nat.zero_min]; rfl
  | k + 1, hk => by
    have ih := nextR_at hd h5 hi k (by omega)
    unfold nextR
    rw [ih]
    by_cases q : k < i
    · have h1 : ¬ t 19 k ≤ t 19 i := by rw [i_le]; have := hd i k q hi; omega
      rw [if_neg h1, Nat.min_eq_left (by omega), Nat.min_eq_left (by omega)]
      cases k with
      | zero => rfl
      | succ k =>
        show (if nI k = -1 then _ else if t 19 (nI k).toNatClampNeg ≤ t 19 (k + 1) then _ else _) = _
        rw [if_neg (nI_m1 (by omega)), cl0 (by omega), if_neg (by rw [i_le]; have := hd (k + 1) k (by omega) (by omega); omega)]
        rfl
    · have h1 : t 19 k ≤ t 19 i := by
        by_cases e : k = i
        · subst e; exact Int32.le_refl _
        · rw [i_le]; have := hd k i (by omega) (by omega); omega
      rw [if_pos h1, Nat.min_eq_right (by omega), Nat.min_eq_right (by omega)]
theorem mmin_i {a b : Int32} : (mmin a b).toInt = min a.toInt b.toInt := by
  unfold mmin
  split
  · next h => rw [i_lt] at h; omega
  · next h => rw [i_lt] at h; omega
theorem i_5000 : (5000 : Int32).toInt = 5000 := by decide +kernel
theorem i_120 : (120 : Int32).toInt = 120 := by decide +kernel
theorem giv_spec (hn : nextR t i nt = nx i) (h5 : i ≤ 5) (hr : 1 ≤ i → 0 ≤ (t 24 (i - 1)).toInt ∧ (t 24 (i - 1)).toInt ≤ 5000) : ∀ z, (givR t i (giv0 t (nextR t i nt)) z).toInt ≤ 5000 ∧ (1 ≤ i → (givR t i (giv0 t (nextR t i nt)) z).toInt ≤ (t 24 (i - 1)).toInt - 120) ∧ (∀ y, y < z → ¬ t 17 y = 0 → (t 21 i).toInt ≤ (t 15 y).toInt → (givR t i (giv0 t (nextR t i nt)) z).toInt ≤ (t 15 y).toInt) ∧ (∀ B : Int, B ≤ 5000 → (1 ≤ i → B ≤ (t 24 (i - 1)).toInt - 120) → (∀ y, y < z → ¬ t 17 y = 0 → (t 21 i).toInt ≤ (t 15 y).toInt → B ≤ (t 15 y).toInt) → B ≤ (givR t i (giv0 t (nextR t i nt)) z).toInt)
  | 0 => by
    unfold givR giv0
    rw [hn]
    cases i with
    | zero => exact ⟨by rw [show nx 0 = -1 from rfl, if_pos rfl, i_5000]; omega, fun h => by omega, fun y hy => by omega, fun B h1 _ _ => by rw [show nx 0 = -1 from rfl, if_pos rfl, i_5000]; exact h1⟩
    | succ j =>
      obtain ⟨r1, r2⟩ := hr (by omega)
      rw [show j + 1 - 1 = j by omega] at r1 r2 ⊢
      rw [show nx (j + 1) = nI j from rfl, if_neg (nI_m1 (by omega)), cl0 (by omega), mmin_i, i_5000, i_sub (by rw [i_120]; omega) (by rw [i_120]; omega), i_120]
      exact ⟨by omega, fun _ => by omega, fun y hy => by omega, fun B h1 h2 _ => by have := h2 (by omega); omega⟩
  | z + 1 => by
    obtain ⟨g1, g2, g3, g4⟩ := giv_spec hn h5 hr z
    unfold givR
    by_cases c : t 17 z = 0
    · rw [if_pos c]
      refine ⟨g1, g2, fun y hy hc h => g3 y (by
        by_cases e : y = z
        · subst e; exact absurd c hc
        · omega) hc h, fun B h1 h2 h3 => g4 B h1 h2 fun y hy => h3 y (by omega)⟩
    · rw [if_neg c]
      by_cases e : t 15 z < t 21 i
      · rw [if_pos e]
        rw [i_lt] at e
        refine ⟨g1, g2, fun y hy hc h => g3 y (by
          by_cases q : y = z
          · subst q; omega
          · omega) hc h, fun B h1 h2 h3 => g4 B h1 h2 fun y hy => h3 y (by omega)⟩
      · rw [if_neg e, mmin_i]
        rw [i_lt] at e
        refine ⟨by omega, fun h => by have := g2 h; omega, fun y hy hc h => ?_, fun B h1 h2 h3 => ?_⟩
        · by_cases q : y = z
          · subst q; omega
          · have := g3 y (by omega) hc h
            omega
        · have k1 := g4 B h1 h2 fun y hy => h3 y (by omega)
          have k2 := h3 z (by omega) c (by omega)
          omega
theorem nextR_congr (h : ∀ j, t' 19 j = t 19 j) : ∀ k, nextR t' i k = nextR t i k
  | 0 => rfl
  | k + 1 => by
    unfold nextR
    simp only [nextR_congr h k, h]
theorem givS_congr (h : ∀ k j, k ≠ 23 → t' k j = t k j) : givS t' nt nz i = givS t nt nz i := by
  unfold givS
  rw [nextR_congr (fun j => h 19 j (by omega))]
  have e : giv0 t' (nextR t i nt) = giv0 t (nextR t i nt) := by
    unfold giv0
    rw [h 24 _ (by omega)]
  rw [e]
  generalize giv0 t (nextR t i nt) = l0
  have K : ∀ z, givR t' i l0 z = givR t i l0 z := by
    intro z
    induction z with
    | zero => rfl
    | succ z ih =>
      unfold givR
      rw [ih, h 17 _ (by omega), h 15 _ (by omega), h 21 _ (by omega)]
  exact K nz
theorem dealR_23 : ∀ j i, dealR t nt nz j 23 i = if i < j ∧ t 34 i = 0 then givS t nt nz i else t 23 i
  | 0, i => by rw [if_neg (by omega)]; rfl
  | j + 1, i => by
    have e34 : dealR t nt nz j 34 j = t 34 j := dealR_ne (by decide) j
    have eg : givS (dealR t nt nz j) nt nz j = givS t nt nz j := givS_congr (fun k q hk => dealR_ne hk j)
    unfold dealR
    rw [e34, eg]
    by_cases c : t 34 j = 0
    · rw [if_pos c]
      by_cases q : i = j
      · subst q
        rw [up2_same, if_pos ⟨by omega, c⟩]
      · rw [up2_ne (fun z => q z.2), dealR_23 j i]
        by_cases a : i < j ∧ t 34 i = 0
        · rw [if_pos a, if_pos ⟨by omega, a.2⟩]
        · rw [if_neg a, if_neg (fun b => a ⟨by omega, b.2⟩)]
    · rw [if_neg c, dealR_23 j i]
      by_cases a : i < j ∧ t 34 i = 0
      · rw [if_pos a, if_pos ⟨by omega, a.2⟩]
      · rw [if_neg a, if_neg (fun b => a ⟨by
          by_cases q : i = j
          · subst q; exact absurd b.2 c
          · omega, b.2⟩)]
theorem deal_SF (h5 : nt ≤ 5) (H : ∀ i, i < nt → PrT t nz i) : SF (dealR t nt nz nt) nz nt (fun _ => false) := by
  have ne : ∀ k i, k ≠ 23 → dealR t nt nz nt k i = t k i := fun k i h => dealR_ne h nt
  have hch := PrT.chain H
  have hd : ∀ i j, j < i → i < nt → (t 19 i).toInt < (t 19 j).toInt := fun i j h1 h2 => by
    have := hch i j h1 h2
    obtain ⟨a1, a2, a3, -⟩ := H i h2
    obtain ⟨c1, c2, c3, -⟩ := H j (by omega)
    omega
  have key : ∀ i, i < nt → ∃ v, v ≤ 20 ∧ t 22 i = nI v ∧ (t 21 i).toInt + bkI v ≤ (dealR t nt nz nt 23 i).toInt ∧ (dealR t nt nz nt 23 i).toInt ≤ 5000 ∧ (1 ≤ i → (dealR t nt nz nt 23 i).toInt ≤ (t 24 (i - 1)).toInt - 120) ∧ (∀ z, z < nz → ¬ t 17 z = 0 → (t 15 z).toInt < (t 20 i).toInt ∨ ((t 21 i).toInt ≤ (t 15 z).toInt ∧ (dealR t nt nz nt 23 i).toInt ≤ (t 15 z).toInt)) := by
    intro i hi
    obtain ⟨a1, a2, a3, a4, a5, v, v1, v2, v3, v4, v5, v6⟩ := H i hi
    obtain ⟨b0, -⟩ := wy_bk v (by omega)
    rw [dealR_23]
    by_cases c : t 34 i = 0
    · rw [if_pos ⟨hi, c⟩]
      have hn := nextR_at hd h5 hi nt (Nat.le_refl _)
      rw [Nat.min_eq_right (by omega)] at hn
      obtain ⟨g1, g2, g3, g4⟩ := giv_spec (nt := nt) hn (by omega) (fun h => by
        obtain ⟨c1, c2, c3, c4, c5, w, w1, w2, w3, -⟩ := H (i - 1) (by omega)
        obtain ⟨d0, -⟩ := wy_bk w (by omega)
        omega) nz
      refine ⟨v, v1, v2, g4 _ v3 v4 (fun y hy hc h => ?_), g1, g2, fun z hz hc => ?_⟩
      · rcases v5 y hy hc with q | q
        · omega
        · exact q
      · rcases v5 z hz hc with q | q
        · exact Or.inl q
        · exact Or.inr ⟨by omega, g3 z hz hc (by omega)⟩
    · rw [if_neg (fun q => c q.2)]
      obtain ⟨w1, w2, w3, w4⟩ := v6 c
      exact ⟨v, v1, v2, w1, w2, w3, fun z hz hc => w4 z hz hc⟩
  refine ⟨fun i hi => ?_, fun i hi => ?_, fun z i hz hi => ?_⟩
  · obtain ⟨a1, a2, a3, a4, a5, -⟩ := H i hi
    obtain ⟨v, v1, v2, v3, v4, -⟩ := key i hi
    unfold TrS
    rw [ne 20 _ (by omega), ne 19 _ (by omega), ne 21 _ (by omega), ne 22 _ (by omega), ne 24 _ (by omega)]
    exact ⟨a1, a2, a3, ⟨v, v1, v2, v3⟩, v4, a4, a5⟩
  · obtain ⟨v, v1, v2, v3, v4, v5, -⟩ := key (i + 1) hi
    rw [ne 24 _ (by omega)]
    exact v5 (by omega)
  · obtain ⟨v, v1, v2, v3, v4, v5, v6⟩ := key i hi
    unfold ClS
    rw [ne 17 _ (by omega), ne 15 _ (by omega), ne 20 _ (by omega), ne 21 _ (by omega)]
    exact v6 z hz
theorem deal_SA (h5 : nt ≤ 5) (H : ∀ i, i < nt → PrT t nz i) (hz : ZnS t nz) (hr : RcS t nt g) : SA (dealR t nt nz nt) nz nt (fun _ => false) g := by
  have ne : ∀ k i, k ≠ 23 → dealR t nt nz nt k i = t k i := fun k i h => dealR_ne h nt
  refine ⟨deal_SF h5 H, fun z h => ?_, fun i hi => ?_⟩
  · rw [ne 15 _ (by omega), ne 16 _ (by omega)]; exact hz z h
  · rw [ne 32 _ (by omega), ne 19 _ (by omega), sumR_congr (ne 31 _ (by omega)) _ (fun q _ => ne 36 _ (by omega))]
    exact hr i hi
end SAF
