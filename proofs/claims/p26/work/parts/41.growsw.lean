/-! printed (wip/p26/growsw.py): the world with one object more -/
theorem SW_grow5 {D : va_G} {X : Nat → ClassId} {ad : Nat → Nat → Nat} {A : Nat → Prop} {np nb nz nt : Nat} {u : TT} {H H3 : Heap} {a : Int32} (hW : SW D X ad A (MS np nb nz nt) u H) (hA : A H.size) (hT : ∀ i, i < nt → u 26 i = -1 ∨ ∃ q, q < np ∧ q ≤ 5000 ∧ u 26 i = nI q) (h40 : u 40 np = nI np) (h10 : u 10 np = 0) (h5 : u 5 np = 0) (h6 : u 6 np = 0) (h7 : u 7 np = 0) (h8 : u 8 np = 0) (h9 : u 9 np = -1) (hob : va_at D vwCl (H.size, .inr (1, [.int (nI np), .int a, .int 0, .int 0, .int 0, .int 0, .int 0, .int (-1)])) H3) (harr : va_at D vwCl (ad 1 0, .inl (X 1, 6, .inr (.inr (.inr (.inr (va_up (refsOf ad (MS np nb nz nt) 5) np (some H.size))))))) H3) (hk : ∀ x, x < H.size → x ≠ ad 1 0 → H3[x]? = H[x]?) : SW D X (up2 ad 5 np H.size) A (MS (np + 1) nb nz nt) (up2 u 4 np a) H3 := by
  have hold : ∀ kp i, (MS (np + 1) nb nz nt) kp i = true → ¬ (kp = 5 ∧ i = np) → (MS np nb nz nt) kp i = true := fun kp i h1 h2 => MS_mk (by have := MS_cases h1; omega)
  have hne : ∀ kp i, (MS np nb nz nt) kp i = true → ¬ (kp = 5 ∧ i = np) := fun kp i h1 h2 => by have := MS_cases h1; omega
  have had : ∀ kp i, (MS np nb nz nt) kp i = true → up2 ad 5 np H.size kp i = ad kp i := fun kp i h => up2_ne (hne kp i h)
  refine ⟨fun kp i h => ?_, fun kp i kq j h1 h2 h9 => ?_, fun kp i h => ?_, MS_ok⟩
  · by_cases e : kp = 5 ∧ i = np
    · obtain ⟨rfl, rfl⟩ := e
      rw [up2_same]
      have hc : cellE X (up2 ad 5 i H.size) (MS (i + 1) nb nz nt) (up2 u 4 i a) 5 i = .inr (1, [.int (nI i), .int a, .int 0, .int 0, .int 0, .int 0, .int 0, .int (-1)]) := by
        show Sum.inr (1, (FL 5).map fun e => toV (up2 ad 5 i H.size) (fvv (up2 u 4 i a) i e)) = _
        simp only [FL, List.map, fvv, toV, up2_same, h40, h10, h5, h6, h7, h8, h9, up2_ne (show ¬ (40 = 4 ∧ i = i) by omega), up2_ne (show ¬ (10 = 4 ∧ i = i) by omega), up2_ne (show ¬ (5 = 4 ∧ i = i) by omega), up2_ne (show ¬ (6 = 4 ∧ i = i) by omega), up2_ne (show ¬ (7 = 4 ∧ i = i) by omega), up2_ne (show ¬ (8 = 4 ∧ i = i) by omega), up2_ne (show ¬ (9 = 4 ∧ i = i) by omega)]
      rw [hc]
      exact hob
    · by_cases e1 : kp = 1
      · subst e1
        have hi0 : i = 0 := by have := MS_cases h; omega
        subst hi0
        rw [had 1 0 (hold 1 0 h e)]
        have hr : refsOf (up2 ad 5 np H.size) (MS (np + 1) nb nz nt) 5 = va_up (refsOf ad (MS np nb nz nt) 5) np (some H.size) := by
          funext j
          unfold va_up refsOf
          by_cases hj : j = np
          · subst hj
            rw [if_pos rfl, if_pos (MS_mk (by omega)), up2_same]
          · rw [if_neg hj]
            by_cases hm : (MS np nb nz nt) 5 j = true
            · rw [if_pos hm, if_pos (MS_mk (by have := MS_cases hm; omega)), had 5 j hm]
            · rw [if_neg hm, if_neg (fun z => hm (MS_mk (by have := MS_cases z; omega)))]
        show va_at D vwCl (ad 1 0, .inl (X 1, 6, .inr (.inr (.inr (.inr (refsOf (up2 ad 5 np H.size) (MS (np + 1) nb nz nt) 5)))))) H3
        rw [hr]
        exact harr
      · have ho := hold kp i h e
        rw [had kp i ho, cell_ad had (fun z => ?_) (fun j z1 z2 => ?_) ho]
        · refine va_at.kept (cell_congr (t := u) (fun id j hr => ?_) (hW.1 kp i ho)) (hk _ (hW.lt ho) (fun z => e1 (hW.2.1 _ _ _ _ ho (MS_mk (by omega) : (MS np nb nz nt) 1 0 = true) z).1))
          have own := rd_own1 (by have := MS_cases ho; omega) hr
          by_cases f4 : id = 4 ∧ j = np
          · obtain ⟨rfl, rfl⟩ := f4
            cases own
            exact absurd ⟨rfl, rfl⟩ e
          rw [up2_ne f4]
        · subst z
          have hi8 : i < nt := by have := MS_cases ho; omega
          rcases hT i hi8 with z | ⟨q, q1, q2, z⟩
          · exact Or.inl (by rw [up2_ne (by omega)]; exact z)
          · exact Or.inr ⟨q, q1, q2, by rw [up2_ne (by omega)]; exact z⟩
        · have : kp = 1 ∨ kp = 2 ∨ kp = 3 ∨ kp = 4 := by omega
          rcases this with rfl | rfl | rfl | rfl <;> first | rfl | exact absurd rfl e1
  · by_cases e1 : kp = 5 ∧ i = np
    · by_cases e2 : kq = 5 ∧ j = np
      · exact ⟨e1.1.trans e2.1.symm, e1.2.trans e2.2.symm⟩
      · rw [e1.1, e1.2, up2_same, had kq j (hold kq j h2 e2)] at h9
        have := hW.lt (hold kq j h2 e2)
        omega
    · by_cases e2 : kq = 5 ∧ j = np
      · rw [e2.1, e2.2, up2_same, had kp i (hold kp i h1 e1)] at h9
        have := hW.lt (hold kp i h1 e1)
        omega
      · rw [had kp i (hold kp i h1 e1), had kq j (hold kq j h2 e2)] at h9
        exact hW.2.1 _ _ _ _ (hold kp i h1 e1) (hold kq j h2 e2) h9
  · by_cases e1 : kp = 5 ∧ i = np
    · rw [e1.1, e1.2, up2_same]
      exact hA
    · rw [had kp i (hold kp i h e1)]
      exact hW.2.2.1 kp i (hold kp i h e1)
theorem SW_grow6 {D : va_G} {X : Nat → ClassId} {ad : Nat → Nat → Nat} {A : Nat → Prop} {np nb nz nt : Nat} {u : TT} {H H3 : Heap} {a : Int32} (hW : SW D X ad A (MS np nb nz nt) u H) (hA : A H.size) (hT : ∀ i, i < nt → u 26 i = -1 ∨ ∃ q, q < np ∧ q ≤ 5000 ∧ u 26 i = nI q)  (hob : va_at D vwCl (H.size, .inr (0, [.int a, .int 1])) H3) (harr : va_at D vwCl (ad 2 0, .inl (X 2, 12, .inr (.inr (.inr (.inr (va_up (refsOf ad (MS np nb nz nt) 6) nb (some H.size))))))) H3) (hk : ∀ x, x < H.size → x ≠ ad 2 0 → H3[x]? = H[x]?) : SW D X (up2 ad 6 nb H.size) A (MS np (nb + 1) nz nt) (up2 (up2 u 12 nb a) 13 nb 1) H3 := by
  have hold : ∀ kp i, (MS np (nb + 1) nz nt) kp i = true → ¬ (kp = 6 ∧ i = nb) → (MS np nb nz nt) kp i = true := fun kp i h1 h2 => MS_mk (by have := MS_cases h1; omega)
  have hne : ∀ kp i, (MS np nb nz nt) kp i = true → ¬ (kp = 6 ∧ i = nb) := fun kp i h1 h2 => by have := MS_cases h1; omega
  have had : ∀ kp i, (MS np nb nz nt) kp i = true → up2 ad 6 nb H.size kp i = ad kp i := fun kp i h => up2_ne (hne kp i h)
  refine ⟨fun kp i h => ?_, fun kp i kq j h1 h2 h9 => ?_, fun kp i h => ?_, MS_ok⟩
  · by_cases e : kp = 6 ∧ i = nb
    · obtain ⟨rfl, rfl⟩ := e
      rw [up2_same]
      have hc : cellE X (up2 ad 6 i H.size) (MS np (i + 1) nz nt) (up2 (up2 u 12 i a) 13 i 1) 6 i = .inr (0, [.int a, .int 1]) := by
        show Sum.inr (0, (FL 6).map fun e => toV (up2 ad 6 i H.size) (fvv (up2 (up2 u 12 i a) 13 i 1) i e)) = _
        simp only [FL, List.map, fvv, toV, up2_same, up2_ne (show ¬ (13 = 12 ∧ i = i) by omega), up2_ne (show ¬ (12 = 13 ∧ i = i) by omega)]
      rw [hc]
      exact hob
    · by_cases e1 : kp = 2
      · subst e1
        have hi0 : i = 0 := by have := MS_cases h; omega
        subst hi0
        rw [had 2 0 (hold 2 0 h e)]
        have hr : refsOf (up2 ad 6 nb H.size) (MS np (nb + 1) nz nt) 6 = va_up (refsOf ad (MS np nb nz nt) 6) nb (some H.size) := by
          funext j
          unfold va_up refsOf
          by_cases hj : j = nb
          · subst hj
            rw [if_pos rfl, if_pos (MS_mk (by omega)), up2_same]
          · rw [if_neg hj]
            by_cases hm : (MS np nb nz nt) 6 j = true
            · rw [if_pos hm, if_pos (MS_mk (by have := MS_cases hm; omega)), had 6 j hm]
            · rw [if_neg hm, if_neg (fun z => hm (MS_mk (by have := MS_cases z; omega)))]
        show va_at D vwCl (ad 2 0, .inl (X 2, 12, .inr (.inr (.inr (.inr (refsOf (up2 ad 6 nb H.size) (MS np (nb + 1) nz nt) 6)))))) H3
        rw [hr]
        exact harr
      · have ho := hold kp i h e
        rw [had kp i ho, cell_ad had (fun z => ?_) (fun j z1 z2 => ?_) ho]
        · refine va_at.kept (cell_congr (t := u) (fun id j hr => ?_) (hW.1 kp i ho)) (hk _ (hW.lt ho) (fun z => e1 (hW.2.1 _ _ _ _ ho (MS_mk (by omega) : (MS np nb nz nt) 2 0 = true) z).1))
          have own := rd_own1 (by have := MS_cases ho; omega) hr
          by_cases f12 : id = 12 ∧ j = nb
          · obtain ⟨rfl, rfl⟩ := f12
            cases own
            exact absurd ⟨rfl, rfl⟩ e
          by_cases f13 : id = 13 ∧ j = nb
          · obtain ⟨rfl, rfl⟩ := f13
            cases own
            exact absurd ⟨rfl, rfl⟩ e
          rw [up2_ne f13, up2_ne f12]
        · subst z
          have hi8 : i < nt := by have := MS_cases ho; omega
          rcases hT i hi8 with z | ⟨q, q1, q2, z⟩
          · exact Or.inl (by rw [up2_ne (by omega), up2_ne (by omega)]; exact z)
          · exact Or.inr ⟨q, q1, q2, by rw [up2_ne (by omega), up2_ne (by omega)]; exact z⟩
        · have : kp = 1 ∨ kp = 2 ∨ kp = 3 ∨ kp = 4 := by omega
          rcases this with rfl | rfl | rfl | rfl <;> first | rfl | exact absurd rfl e1
  · by_cases e1 : kp = 6 ∧ i = nb
    · by_cases e2 : kq = 6 ∧ j = nb
      · exact ⟨e1.1.trans e2.1.symm, e1.2.trans e2.2.symm⟩
      · rw [e1.1, e1.2, up2_same, had kq j (hold kq j h2 e2)] at h9
        have := hW.lt (hold kq j h2 e2)
        omega
    · by_cases e2 : kq = 6 ∧ j = nb
      · rw [e2.1, e2.2, up2_same, had kp i (hold kp i h1 e1)] at h9
        have := hW.lt (hold kp i h1 e1)
        omega
      · rw [had kp i (hold kp i h1 e1), had kq j (hold kq j h2 e2)] at h9
        exact hW.2.1 _ _ _ _ (hold kp i h1 e1) (hold kq j h2 e2) h9
  · by_cases e1 : kp = 6 ∧ i = nb
    · rw [e1.1, e1.2, up2_same]
      exact hA
    · rw [had kp i (hold kp i h e1)]
      exact hW.2.2.1 kp i (hold kp i h e1)
theorem SW_grow7 {D : va_G} {X : Nat → ClassId} {ad : Nat → Nat → Nat} {A : Nat → Prop} {np nb nz nt : Nat} {u : TT} {H H3 : Heap} {a b : Int32} (hW : SW D X ad A (MS np nb nz nt) u H) (hA : A H.size) (hT : ∀ i, i < nt → u 26 i = -1 ∨ ∃ q, q < np ∧ q ≤ 5000 ∧ u 26 i = nI q) (h17 : u 17 nz = 0) (hob : va_at D vwCl (H.size, .inr (3, [.int a, .int b, .int 0])) H3) (harr : va_at D vwCl (ad 3 0, .inl (X 3, 4, .inr (.inr (.inr (.inr (va_up (refsOf ad (MS np nb nz nt) 7) nz (some H.size))))))) H3) (hk : ∀ x, x < H.size → x ≠ ad 3 0 → H3[x]? = H[x]?) : SW D X (up2 ad 7 nz H.size) A (MS np nb (nz + 1) nt) (up2 (up2 u 15 nz a) 16 nz b) H3 := by
  have hold : ∀ kp i, (MS np nb (nz + 1) nt) kp i = true → ¬ (kp = 7 ∧ i = nz) → (MS np nb nz nt) kp i = true := fun kp i h1 h2 => MS_mk (by have := MS_cases h1; omega)
  have hne : ∀ kp i, (MS np nb nz nt) kp i = true → ¬ (kp = 7 ∧ i = nz) := fun kp i h1 h2 => by have := MS_cases h1; omega
  have had : ∀ kp i, (MS np nb nz nt) kp i = true → up2 ad 7 nz H.size kp i = ad kp i := fun kp i h => up2_ne (hne kp i h)
  refine ⟨fun kp i h => ?_, fun kp i kq j h1 h2 h9 => ?_, fun kp i h => ?_, MS_ok⟩
  · by_cases e : kp = 7 ∧ i = nz
    · obtain ⟨rfl, rfl⟩ := e
      rw [up2_same]
      have hc : cellE X (up2 ad 7 i H.size) (MS np nb (i + 1) nt) (up2 (up2 u 15 i a) 16 i b) 7 i = .inr (3, [.int a, .int b, .int 0]) := by
        show Sum.inr (3, (FL 7).map fun e => toV (up2 ad 7 i H.size) (fvv (up2 (up2 u 15 i a) 16 i b) i e)) = _
        simp only [FL, List.map, fvv, toV, up2_same, h17, up2_ne (show ¬ (17 = 15 ∧ i = i) by omega), up2_ne (show ¬ (16 = 15 ∧ i = i) by omega), up2_ne (show ¬ (17 = 16 ∧ i = i) by omega), up2_ne (show ¬ (15 = 16 ∧ i = i) by omega)]
      rw [hc]
      exact hob
    · by_cases e1 : kp = 3
      · subst e1
        have hi0 : i = 0 := by have := MS_cases h; omega
        subst hi0
        rw [had 3 0 (hold 3 0 h e)]
        have hr : refsOf (up2 ad 7 nz H.size) (MS np nb (nz + 1) nt) 7 = va_up (refsOf ad (MS np nb nz nt) 7) nz (some H.size) := by
          funext j
          unfold va_up refsOf
          by_cases hj : j = nz
          · subst hj
            rw [if_pos rfl, if_pos (MS_mk (by omega)), up2_same]
          · rw [if_neg hj]
            by_cases hm : (MS np nb nz nt) 7 j = true
            · rw [if_pos hm, if_pos (MS_mk (by have := MS_cases hm; omega)), had 7 j hm]
            · rw [if_neg hm, if_neg (fun z => hm (MS_mk (by have := MS_cases z; omega)))]
        show va_at D vwCl (ad 3 0, .inl (X 3, 4, .inr (.inr (.inr (.inr (refsOf (up2 ad 7 nz H.size) (MS np nb (nz + 1) nt) 7)))))) H3
        rw [hr]
        exact harr
      · have ho := hold kp i h e
        rw [had kp i ho, cell_ad had (fun z => ?_) (fun j z1 z2 => ?_) ho]
        · refine va_at.kept (cell_congr (t := u) (fun id j hr => ?_) (hW.1 kp i ho)) (hk _ (hW.lt ho) (fun z => e1 (hW.2.1 _ _ _ _ ho (MS_mk (by omega) : (MS np nb nz nt) 3 0 = true) z).1))
          have own := rd_own1 (by have := MS_cases ho; omega) hr
          by_cases f15 : id = 15 ∧ j = nz
          · obtain ⟨rfl, rfl⟩ := f15
            cases own
            exact absurd ⟨rfl, rfl⟩ e
          by_cases f16 : id = 16 ∧ j = nz
          · obtain ⟨rfl, rfl⟩ := f16
            cases own
            exact absurd ⟨rfl, rfl⟩ e
          rw [up2_ne f16, up2_ne f15]
        · subst z
          have hi8 : i < nt := by have := MS_cases ho; omega
          rcases hT i hi8 with z | ⟨q, q1, q2, z⟩
          · exact Or.inl (by rw [up2_ne (by omega), up2_ne (by omega)]; exact z)
          · exact Or.inr ⟨q, q1, q2, by rw [up2_ne (by omega), up2_ne (by omega)]; exact z⟩
        · have : kp = 1 ∨ kp = 2 ∨ kp = 3 ∨ kp = 4 := by omega
          rcases this with rfl | rfl | rfl | rfl <;> first | rfl | exact absurd rfl e1
  · by_cases e1 : kp = 7 ∧ i = nz
    · by_cases e2 : kq = 7 ∧ j = nz
      · exact ⟨e1.1.trans e2.1.symm, e1.2.trans e2.2.symm⟩
      · rw [e1.1, e1.2, up2_same, had kq j (hold kq j h2 e2)] at h9
        have := hW.lt (hold kq j h2 e2)
        omega
    · by_cases e2 : kq = 7 ∧ j = nz
      · rw [e2.1, e2.2, up2_same, had kp i (hold kp i h1 e1)] at h9
        have := hW.lt (hold kp i h1 e1)
        omega
      · rw [had kp i (hold kp i h1 e1), had kq j (hold kq j h2 e2)] at h9
        exact hW.2.1 _ _ _ _ (hold kp i h1 e1) (hold kq j h2 e2) h9
  · by_cases e1 : kp = 7 ∧ i = nz
    · rw [e1.1, e1.2, up2_same]
      exact hA
    · rw [had kp i (hold kp i h e1)]
      exact hW.2.2.1 kp i (hold kp i h e1)
