/-! the law's calls of the reference, the ends of its cases; the four calls that make something, both sides in one -/
abbrev AL (s : State) : Nat → Prop := fun q => s.heap.size ≤ q
abbrev LV (b x0 m0 o i : Nat) : List (Nat × Value) := [(4, .int (nI i)), (3, .ref o), (2, .ref m0), (1, .ref x0), (0, .ref b)]
def LC (p : Program) (l : Launch) (s : State) (m : MethodId) (c : Code) (D : va_G) (X : Nat → ClassId) (b L : Nat) (xs : Nat → Int32) : Prop :=
  p.tables.exec = Jvm.exec ∧ c.code = code ∧ c.maxLocals = 7 ∧ (∀ w ∈ LT, w.before #[Value.ref b] s = true) ∧ s.vm.findClass R_law = some m.cls ∧ va_K D vwCl (TYX X) s ∧ EX (AL s) s ∧ YS s ∧ va_X b L xs s s.heap ∧ b < s.heap.size ∧ L ≤ 2048 ∧ l.stackTraces = false
def PMI (cd : Nat) (r : Int32) (s' : TT) (v : Option VV) (t' : TT) : Prop := match v with
  | some (.inl r') => (cd = 0 → r' = r) ∧ t' = s'
  | _ => False
def PMV (s' : TT) (v : Option VV) (t' : TT) : Prop := match v with
  | none => t' = s'
  | _ => False
def dTi (pc : Nat) (g : Int) : List (Nat × Instr × Nat) := [(pc, .istore 6, 2), (pc + 2, .aload_n 2, 1), (pc + 3, .invokevirtual 98, 3), (pc + 6, .iload 5, 2), (pc + 8, .if_icmp .eq 5, 3), (pc + 13, .iload 5, 2), (pc + 15, .ifCond .ne 15, 3), (pc + 18, .aload_n 3, 1), (pc + 19, .iconst 0, 1), (pc + 20, .laload, 1), (pc + 21, .iload 6, 2), (pc + 23, .i2l, 1), (pc + 24, .lcmp, 1), (pc + 25, .ifCond .eq 5, 3), (pc + 30, .goto g, 3)]
def dTz (pc : Nat) (g : Int) : List (Nat × Instr × Nat) := [(pc, .istore 6, 2), (pc + 2, .aload_n 2, 1), (pc + 3, .invokevirtual 98, 3), (pc + 6, .iload 5, 2), (pc + 8, .if_icmp .eq 5, 3), (pc + 13, .iload 5, 2), (pc + 15, .ifCond .ne 22, 3), (pc + 18, .aload_n 3, 1), (pc + 19, .iconst 0, 1), (pc + 20, .laload, 1), (pc + 21, .iload 6, 2), (pc + 23, .ifCond .eq 7, 3), (pc + 26, .lconst 1, 1), (pc + 27, .goto 4, 3), (pc + 30, .lconst 0, 1), (pc + 31, .lcmp, 1), (pc + 32, .ifCond .eq 5, 3), (pc + 37, .goto g, 3)]
def dTv (pc : Nat) (g : Int) : List (Nat × Instr × Nat) := [(pc, .aload_n 2, 1), (pc + 1, .invokevirtual 98, 3), (pc + 4, .iload 5, 2), (pc + 6, .if_icmp .eq 5, 3), (pc + 11, .goto g, 3)]
def dOK (T : List (Nat × Instr × Nat)) : Prop := ∀ q ∈ T, decode code q.1 = .ok q.2
theorem dAt {T : List (Nat × Instr × Nat)} (h : dOK T) (k : Nat) {a : Nat} {i : Instr} {n : Nat} (hk : T[k]? = some (a, i, n)) : decode code a = .ok (i, n) := h (a, i, n) (List.mem_of_getElem? hk)
section LAWR
variable {p : Program} {l : Launch} {e : Env} {s : State} {m : MethodId} {below : List Frame} {meth : Method} {c : Code} {Q : State → Prop} {D : va_G} {X : Nat → ClassId} {ad : Nat → Nat → Nat} {b L : Nat} {xs : Nat → Int32} {H : Heap} {locs : List Loc} {ls : Array Slot} {pc : Nat} {np nb nz nt : Nat} {t u s' : TT} {o x0 m0 i : Nat} {f : Nat → Int64} {cl sl cd : Nat}
theorem law_model (hC : LC p l s m c D X b L xs) {y : MethodName} {by9 : ByteArray} {ny : Nat} {ret : Option FieldType} {rm : Room} {as : List VV} {post : Option VV → TT → Prop} (hM : CT l y (Cond.code y by9 ny ret :: LT) rm D X ad MM as u 0 0 post (fun _ _ => False)) {ix n : Nat} (hws : Cond.methodLink R_law ix y ∈ LT ∧ Cond.instanceMethod y ∈ LT ∧ Cond.selects y.cls y y ∈ LT ∧ Cond.initialized y.cls ∈ LT ∧ Cond.code y by9 ny ret ∈ LT) (hd : y.cls ≠ "java/lang/invoke/MethodHandle" ∧ y.cls ≠ "java/lang/invoke/VarHandle" ∧ (parseMethodDescriptor y.desc).map (fun d => d.parameters.length) = some n) (hR : rm.frames + 1 ≤ room_1.frames ∧ 8 + (ny + 11) + rm.locals ≤ room_1.locals) (hrc : rm.cells = 0) (hrs : rm.slots = 0) (hn : as.length = n + 1) (has : as.head? = some (.inr (.inl (20, 0)))) (hcl : RX5 = y.cls)
    (hL : LSt D X ad (AL s) np nb nz nt t u o f x0 m0 H) (hS : va_S (AL s) s.heap H locs) (hls : ls.size = 7) {rest : List Value} (h8 : (rest.map fun v => v.category).sum ≤ 8) (hc : cl ≤ 601024) (hs : sl ≤ 7293034) (hdec : decode code pc = .ok (.invokevirtual ix, 3))
    (kk : ∀ (v : Option VV) (u' : TT) (ad1 ad2 : Nat → Nat → Nat) (H1 : Heap) (locs1 : List Loc), post v u' → LSt D X ad2 (AL s) np nb nz nt t u' o f x0 m0 H1 → va_S (AL s) s.heap H1 locs1 → W p l e room_1 s m #[Value.ref b] below meth c H1 locs1 cl sl Q (F0 m (pc + 3) ls ((v.map (toV ad1)).toList ++ rest))) : W p l e room_1 s m #[Value.ref b] below meth c H locs cl sl Q (F0 m pc ls ((as.map (toV ad)).reverse ++ rest)) := by
  obtain ⟨hx, hb, hml, hts, hown, hK, hE, hY, hX, hbl, hL9, hst⟩ := hC
  obtain ⟨hW, hWm, hap, hat, hAo, hne, hnm, hx0, hm0⟩ := hL
  have hA : ∀ q, s.heap.size ≤ q → AL s q := fun _ h => h
  have h20 : MM 20 0 = true := rfl
  refine run_own (M := MM) hA hS hWm (lcall_E (Ts := LT) (n := n) (rest := rest) (mc1 := 0) (ms1 := 0) hx hb hml hts hown hK hA hE hM.toE (fun w h => h) hws hd hR hrc hrs hn ⟨20, 0, by rw [has]; rfl, h20, Or.inr (Or.inr (Or.inr (Or.inr (Or.inr rfl)))), hcl⟩ hWm hS hls h8 (cl := cl) (sl := sl) (by show cl + 0 ≤ 601024; omega) (by show sl + 0 ≤ 7293034; omega) hdec) ?_ ?_
  · intro v u' ad' M' H1 locs1 hp hext hw hS1 hsz hkeep
    obtain ⟨hp, rfl⟩ := hp
    have hlo : ∀ kp i, kp < 11 → (fun kp i => if kp < 11 then ad kp i else ad' kp i) kp i = ad kp i := fun kp i h => if_pos h
    have hhi : ∀ kp i, 11 ≤ kp → (fun kp i => if kp < 11 then ad kp i else ad' kp i) kp i = ad' kp i := fun kp i h => if_neg (by omega)
    have hcls : ∀ kp i, MS np nb nz nt kp i = true → kp < 11 := fun kp i h => by have := MS_cases h; omega
    have hmm : ∀ kp i, MM kp i = true → 11 ≤ kp := fun kp i h => by have := MM_cases h; omega
    have hout : ∀ a, a < H.size → (∀ kp i, MM kp i = true → ad kp i ≠ a) → ¬ AC ad MM H.size a := by
      rintro a h1 h2 (⟨kp, i, h3, h4⟩ | h3)
      · exact h2 kp i h3 h4.symm
      · omega
    exact kk v u' ad (fun kp i => if kp < 11 then ad kp i else ad' kp i) H1 locs1 hp ⟨SW.lo hlo (hW.kept fun kp i h => hkeep _ (hW.lt h) (hout _ (hW.lt h) fun kq j h2 h3 => hap kp i kq j h h2 h3.symm)), SW.hi hhi hw, fun kp i kq j h1 h2 => by
        rw [hlo kp i (hcls kp i h1), hhi kq j (hmm kq j h2), (hext.1 kq j h2).2]
        exact hap kp i kq j h1 h2, hat.kept (hkeep o hat.lt (hout o hat.lt hnm)), hAo, fun kp i h1 => by
        rw [hlo kp i (hcls kp i h1)]
        exact hne kp i h1, fun kp i h1 => by
        rw [hhi kp i (hmm kp i h1), (hext.1 kp i h1).2]
        exact hnm kp i h1, by
        rw [hlo 0 0 (by omega)]
        exact hx0, by
        rw [hhi 20 0 (by omega), (hext.1 20 0 h20).2]
        exact hm0⟩ hS1
  · intro E ce q t1 H1 locs1 hf
    exact hf.elim
theorem law_self (hC : LC p l s m c D X b L xs) {y : MethodName} {by9 : ByteArray} {ny : Nat} {ret : Option FieldType} {rm : Room} {as : List VV} {post : Option VV → TT → Prop} {kx : String → TT → Prop} (hM : CT l y (Cond.code y by9 ny ret :: LT) rm D X ad (MS np nb nz nt) as (over t) 0 0 post kx) (hkx : ∀ E w, kx E w → False) (hpo : ∀ v w, post v w → w = over s') {ix n : Nat} (hws : Cond.methodLink R_law ix y ∈ LT ∧ Cond.instanceMethod y ∈ LT ∧ Cond.selects y.cls y y ∈ LT ∧ Cond.initialized y.cls ∈ LT ∧ Cond.code y by9 ny ret ∈ LT) (hd : y.cls ≠ "java/lang/invoke/MethodHandle" ∧ y.cls ≠ "java/lang/invoke/VarHandle" ∧ (parseMethodDescriptor y.desc).map (fun d => d.parameters.length) = some n) (hR : rm.frames + 1 ≤ room_1.frames ∧ 8 + (ny + 11) + rm.locals ≤ room_1.locals) (hrc : rm.cells = 0) (hrs : rm.slots = 0) (hn : as.length = n + 1) (has : as.head? = some (.inr (.inl (0, 0)))) (hcl : RX4 = y.cls)
    (hL : LSt D X ad (AL s) np nb nz nt t u o f x0 m0 H) (hS : va_S (AL s) s.heap H locs) (hls : ls.size = 7) {rest : List Value} (h8 : (rest.map fun v => v.category).sum ≤ 8) (hc : cl ≤ 601024) (hs : sl ≤ 7293034) (hdec : decode code pc = .ok (.invokevirtual ix, 3))
    (kk : ∀ (v : Option VV) (w : TT) (ad1 ad2 : Nat → Nat → Nat) (H1 : Heap) (locs1 : List Loc), post v w → LSt D X ad2 (AL s) np nb nz nt s' u o f x0 m0 H1 → va_S (AL s) s.heap H1 locs1 → W p l e room_1 s m #[Value.ref b] below meth c H1 locs1 cl sl Q (F0 m (pc + 3) ls ((v.map (toV ad1)).toList ++ rest))) : W p l e room_1 s m #[Value.ref b] below meth c H locs cl sl Q (F0 m pc ls ((as.map (toV ad)).reverse ++ rest)) := by
  obtain ⟨hx, hb, hml, hts, hown, hK, hE, hY, hX, hbl, hL9, hst⟩ := hC
  obtain ⟨hW, hWm, hap, hat, hAo, hne, hnm, hx0, hm0⟩ := hL
  have hA : ∀ q, s.heap.size ≤ q → AL s q := fun _ h => h
  refine run_own (M := MS np nb nz nt) hA hS hW (lcall_E (Ts := LT) (n := n) (rest := rest) (mc1 := 0) (ms1 := 0) hx hb hml hts hown hK hA hE hM.toE (fun w h => h) hws hd hR hrc hrs hn ⟨0, 0, by rw [has]; rfl, MS_0, Or.inl rfl, hcl⟩ hW hS hls h8 (cl := cl) (sl := sl) (by show cl + 0 ≤ 601024; omega) (by show sl + 0 ≤ 7293034; omega) hdec) ?_ ?_
  · intro v w ad' M' H1 locs1 hp hext hw hS1 hsz hkeep
    obtain ⟨hp, rfl⟩ := hp
    have hlo : ∀ kp i, kp < 11 → (fun kp i => if kp < 11 then ad' kp i else ad kp i) kp i = ad' kp i := fun kp i h => if_pos h
    have hhi : ∀ kp i, 11 ≤ kp → (fun kp i => if kp < 11 then ad' kp i else ad kp i) kp i = ad kp i := fun kp i h => if_neg (by omega)
    have hcls : ∀ kp i, MS np nb nz nt kp i = true → kp < 11 := fun kp i h => by have := MS_cases h; omega
    have hmm : ∀ kp i, MM kp i = true → 11 ≤ kp := fun kp i h => by have := MM_cases h; omega
    have hout : ∀ a, a < H.size → (∀ kp i, MS np nb nz nt kp i = true → ad kp i ≠ a) → ¬ AC ad (MS np nb nz nt) H.size a := by
      rintro a h1 h2 (⟨kp, i, h3, h4⟩ | h3)
      · exact h2 kp i h3 h4.symm
      · omega
    exact kk v w ad (fun kp i => if kp < 11 then ad' kp i else ad kp i) H1 locs1 hp ⟨SW.lo hlo (by rw [← hpo v w hp]; exact hw), SW.hi hhi (hWm.kept fun kp i h => hkeep _ (hWm.lt h) (hout _ (hWm.lt h) fun kq j h2 h3 => hap kq j kp i h2 h h3)), fun kp i kq j h1 h2 => by
        rw [hlo kp i (hcls kp i h1), hhi kq j (hmm kq j h2), (hext.1 kp i h1).2]
        exact hap kp i kq j h1 h2, hat.kept (hkeep o hat.lt (hout o hat.lt hne)), hAo, fun kp i h1 => by
        rw [hlo kp i (hcls kp i h1), (hext.1 kp i h1).2]
        exact hne kp i h1, fun kp i h1 => by
        rw [hhi kp i (hmm kp i h1)]
        exact hnm kp i h1, by
        rw [hlo 0 0 (by omega), (hext.1 0 0 MS_0).2]
        exact hx0, by
        rw [hhi 20 0 (by omega)]
        exact hm0⟩ hS1
  · intro E ce q t1 H1 locs1 hf
    exact (hkx _ _ hf).elim
theorem law_thrown (hC : LC p l s m c D X b L xs) (hth : u 0 0 = nI cd) (hL : LSt D X ad (AL s) np nb nz nt t u o f x0 m0 H) (hS : va_S (AL s) s.heap H locs) (hls : ls.size = 7) (hc : cl ≤ 601024) (hs : sl ≤ 7293034) (hdec : decode code pc = .ok (.invokevirtual 98, 3))
    (kk : ∀ (ad2 : Nat → Nat → Nat) (H1 : Heap) (locs1 : List Loc), LSt D X ad2 (AL s) np nb nz nt t u o f x0 m0 H1 → va_S (AL s) s.heap H1 locs1 → W p l e room_1 s m #[Value.ref b] below meth c H1 locs1 cl sl Q (F0 m (pc + 3) ls [.int (nI cd)])) : W p l e room_1 s m #[Value.ref b] below meth c H locs cl sl Q (F0 m pc ls [.ref m0]) := by
  have hm0 := hL.2.2.2.2.2.2.2.2
  refine W.eq (g2 := F0 m pc ls ((([.inr (.inl (20, 0))] : List VV).map (toV ad)).reverse ++ [])) (by rw [← hm0]; rfl) ?_
  refine law_model (post := fun v t' => v = some (.inl (nI cd)) ∧ t' = u) (n := 0) hC (c_X5_thrown hC.2.2.2.2.2.2.2.2.2.2.2 0 u ⟨rfl, by rw [hth]; exact ⟨rfl, rfl⟩⟩) ⟨LT_in (by decide +kernel) (by decide +kernel), ws_X5_thrown.1, ws_X5_thrown.2.1, ws_X5_thrown.2.2.1, ws_X5_thrown.2.2.2⟩ (by decide +kernel) ⟨by exact Nat.le_of_ble_eq_true rfl, by exact Nat.le_of_ble_eq_true rfl⟩ rfl rfl rfl rfl rfl hL hS hls (rest := []) (by decide) hc hs hdec (fun v u1 ad1 ad2 H2 locs2 hp hL2 hS2 => ?_)
  obtain ⟨rfl, rfl⟩ := hp
  exact kk ad2 H2 locs2 hL2 hS2
theorem at_P {o : Nat} {f : Nat → Int64} {H : Heap} (h : va_at D vwCl (oc30 X o f) H) : va_P D vwCl [oc30 X o f] H := fun k q hq => by
  match k, hq with
  | 0, hq => cases hq; exact h
  | k + 1, hq => simp at hq
theorem law_tailI (hC : LC p l s m c D X b L xs) {g : Int} {r r' : Int32} (hd : dOK (dTi pc g)) (hg : (pc : Int) + 30 + g = 1609) (hcd : cd ≤ 3) (hth : s' 0 0 = nI cd) (hr : cd = 0 → r' = r) (hf : cd = 0 → f 0 = r.toInt64) (hL : LSt D X ad (AL s) np nb nz nt s' s' o f x0 m0 H) (hS : va_S (AL s) s.heap H locs) (hl : lv_has ls 7 ((5, .int (nI cd)) :: LV b x0 m0 o i)) (hc : cl ≤ 601024) (hs : sl ≤ 7293034)
    (kk : ∀ (ad2 : Nat → Nat → Nat) (H1 : Heap) (locs1 : List Loc) (ls1 : Array Slot), LSt D X ad2 (AL s) np nb nz nt s' s' o f x0 m0 H1 → va_S (AL s) s.heap H1 locs1 → lv_has ls1 7 (LV b x0 m0 o i) → W p l e room_1 s m #[Value.ref b] below meth c H1 locs1 cl sl Q (F0 m 1609 ls1 [])) : W p l e room_1 s m #[Value.ref b] below meth c H locs cl sl Q (F0 m pc ls [.int r']) := by
  obtain ⟨hx, hb, hml, hts, hown, hK, hE, hY, hX, hbl, hL9, hst⟩ := id hC
  refine lv_istore (lv' := (6, .int r') :: (5, .int (nI cd)) :: LV b x0 m0 o i) hx hb (dAt hd 0 rfl) hl (by decide) rfl (fun ls1 hl1 => ?_)
  refine lv_aload_n hx hb (dAt hd 1 rfl) rfl (lv_at hl1 4 rfl) ?_
  refine law_thrown hC hth hL hS hl1.1 hc hs (dAt hd 2 rfl) (fun ad2 H1 locs1 hL1 hS1 => ?_)
  refine lv_iload hx hb (dAt hd 3 rfl) (lv_at hl1 1 rfl) ?_
  refine lv_icmp_eq (tgt := pc + 13) hx hb (dAt hd 4 rfl) (by omega) (fun _ => ?_) (fun z => absurd rfl z)
  refine lv_iload hx hb (dAt hd 5 rfl) (lv_at hl1 1 rfl) ?_
  have fin : W p l e room_1 s m #[Value.ref b] below meth c H1 locs1 cl sl Q (F0 m (pc + 30) ls1 []) := lv_goto hx hb (dAt hd 14 rfl) (tgt := 1609) (by omega) (kk ad2 H1 locs1 ls1 hL1 hS1 (lv_sub hl1 [2, 3, 4, 5, 6] rfl))
  refine lv_if_ne (tgt := pc + 30) hx hb (dAt hd 6 rfl) (by omega) (fun _ => fin) (fun z => ?_)
  have z0 : cd = 0 := by
    rcases (show cd = 0 ∨ cd = 1 ∨ cd = 2 ∨ cd = 3 by omega) with h | h | h | h
    · exact h
    all_goals (subst h; exact absurd z (by decide +kernel))
  have hf0 := hf z0
  have hr0 := hr z0
  subst hr0
  refine lv_aload_n hx hb (dAt hd 7 rfl) rfl (lv_at hl1 3 rfl) ?_
  refine lv_iconst (v := 0) hx hb (dAt hd 8 rfl) (by decide +kernel) ?_
  refine va_lald (cA := X 30) (n := 1) (f := f) hx hb hK (at_P hL1.2.2.2.1) 0 7 rfl rfl (by rw [← nI_0]; exact vp0 (by omega) (by omega)) (dAt hd 9 rfl) ?_
  refine W.eq (g2 := F0 m (pc + 21) ls1 [.long r'.toInt64]) (by rw [show (0 : Int32).toNatClampNeg = 0 by decide +kernel, hf0]) ?_
  refine lv_iload hx hb (dAt hd 10 rfl) (lv_at hl1 0 rfl) ?_
  refine lv_i2l hx hb (dAt hd 11 rfl) (v := r'.toInt64) rfl ?_
  refine lv_lcmpE hx hb (dAt hd 12 rfl) ?_
  exact lv_if_eq hx hb (dAt hd 13 rfl) (tgt := pc + 30) (by omega) (fun _ => fin) (fun z => absurd rfl z)
theorem law_tailZ (hC : LC p l s m c D X b L xs) {g : Int} {r r' : Int32} (hd : dOK (dTz pc g)) (hg : (pc : Int) + 37 + g = 1609) (hcd : cd ≤ 3) (hth : s' 0 0 = nI cd) (hB : isB r) (hr : cd = 0 → r' = r) (hf : cd = 0 → f 0 = r.toInt64) (hL : LSt D X ad (AL s) np nb nz nt s' s' o f x0 m0 H) (hS : va_S (AL s) s.heap H locs) (hl : lv_has ls 7 ((5, .int (nI cd)) :: LV b x0 m0 o i)) (hc : cl ≤ 601024) (hs : sl ≤ 7293034)
    (kk : ∀ (ad2 : Nat → Nat → Nat) (H1 : Heap) (locs1 : List Loc) (ls1 : Array Slot), LSt D X ad2 (AL s) np nb nz nt s' s' o f x0 m0 H1 → va_S (AL s) s.heap H1 locs1 → lv_has ls1 7 (LV b x0 m0 o i) → W p l e room_1 s m #[Value.ref b] below meth c H1 locs1 cl sl Q (F0 m 1609 ls1 [])) : W p l e room_1 s m #[Value.ref b] below meth c H locs cl sl Q (F0 m pc ls [.int r']) := by
  obtain ⟨hx, hb, hml, hts, hown, hK, hE, hY, hX, hbl, hL9, hst⟩ := id hC
  refine lv_istore (lv' := (6, .int r') :: (5, .int (nI cd)) :: LV b x0 m0 o i) hx hb (dAt hd 0 rfl) hl (by decide) rfl (fun ls1 hl1 => ?_)
  refine lv_aload_n hx hb (dAt hd 1 rfl) rfl (lv_at hl1 4 rfl) ?_
  refine law_thrown hC hth hL hS hl1.1 hc hs (dAt hd 2 rfl) (fun ad2 H1 locs1 hL1 hS1 => ?_)
  refine lv_iload hx hb (dAt hd 3 rfl) (lv_at hl1 1 rfl) ?_
  refine lv_icmp_eq (tgt := pc + 13) hx hb (dAt hd 4 rfl) (by omega) (fun _ => ?_) (fun z => absurd rfl z)
  refine lv_iload hx hb (dAt hd 5 rfl) (lv_at hl1 1 rfl) ?_
  have fin : W p l e room_1 s m #[Value.ref b] below meth c H1 locs1 cl sl Q (F0 m (pc + 37) ls1 []) := lv_goto hx hb (dAt hd 17 rfl) (tgt := 1609) (by omega) (kk ad2 H1 locs1 ls1 hL1 hS1 (lv_sub hl1 [2, 3, 4, 5, 6] rfl))
  refine lv_if_ne (tgt := pc + 37) hx hb (dAt hd 6 rfl) (by omega) (fun _ => fin) (fun z => ?_)
  have z0 : cd = 0 := by
    rcases (show cd = 0 ∨ cd = 1 ∨ cd = 2 ∨ cd = 3 by omega) with h | h | h | h
    · exact h
    all_goals (subst h; exact absurd z (by decide +kernel))
  have hf0 := hf z0
  have hr0 := hr z0
  subst hr0
  refine lv_aload_n hx hb (dAt hd 7 rfl) rfl (lv_at hl1 3 rfl) ?_
  refine lv_iconst (v := 0) hx hb (dAt hd 8 rfl) (by decide +kernel) ?_
  refine va_lald (cA := X 30) (n := 1) (f := f) hx hb hK (at_P hL1.2.2.2.1) 0 7 rfl rfl (by rw [← nI_0]; exact vp0 (by omega) (by omega)) (dAt hd 9 rfl) ?_
  refine W.eq (g2 := F0 m (pc + 21) ls1 [.long r'.toInt64]) (by rw [show (0 : Int32).toNatClampNeg = 0 by decide +kernel, hf0]) ?_
  refine lv_iload hx hb (dAt hd 10 rfl) (lv_at hl1 0 rfl) ?_
  rcases hB with hB | hB
  · subst hB
    refine lv_if_eq hx hb (dAt hd 11 rfl) (tgt := pc + 30) (by omega) (fun _ => ?_) (fun z => absurd rfl z)
    refine lv_lconst (v := (0 : Int32).toInt64) hx hb (dAt hd 14 rfl) (by decide +kernel) ?_
    refine lv_lcmpE hx hb (dAt hd 15 rfl) ?_
    exact lv_if_eq hx hb (dAt hd 16 rfl) (tgt := pc + 37) (by omega) (fun _ => fin) (fun z => absurd rfl z)
  · subst hB
    refine lv_if_eq hx hb (dAt hd 11 rfl) (tgt := pc + 30) (by omega) (fun z => absurd z (by decide +kernel)) (fun _ => ?_)
    refine lv_lconst (v := (1 : Int32).toInt64) hx hb (dAt hd 12 rfl) (by decide +kernel) ?_
    refine lv_goto hx hb (dAt hd 13 rfl) (tgt := pc + 31) (by omega) ?_
    refine lv_lcmpE hx hb (dAt hd 15 rfl) ?_
    exact lv_if_eq hx hb (dAt hd 16 rfl) (tgt := pc + 37) (by omega) (fun _ => fin) (fun z => absurd rfl z)
theorem law_tailV (hC : LC p l s m c D X b L xs) {g : Int} (hd : dOK (dTv pc g)) (hg : (pc : Int) + 11 + g = 1609) (hth : s' 0 0 = nI cd) (hL : LSt D X ad (AL s) np nb nz nt s' s' o f x0 m0 H) (hS : va_S (AL s) s.heap H locs) (hl : lv_has ls 7 ((5, .int (nI cd)) :: LV b x0 m0 o i)) (hc : cl ≤ 601024) (hs : sl ≤ 7293034)
    (kk : ∀ (ad2 : Nat → Nat → Nat) (H1 : Heap) (locs1 : List Loc) (ls1 : Array Slot), LSt D X ad2 (AL s) np nb nz nt s' s' o f x0 m0 H1 → va_S (AL s) s.heap H1 locs1 → lv_has ls1 7 (LV b x0 m0 o i) → W p l e room_1 s m #[Value.ref b] below meth c H1 locs1 cl sl Q (F0 m 1609 ls1 [])) : W p l e room_1 s m #[Value.ref b] below meth c H locs cl sl Q (F0 m pc ls []) := by
  obtain ⟨hx, hb, hml, hts, hown, hK, hE, hY, hX, hbl, hL9, hst⟩ := id hC
  refine lv_aload_n hx hb (dAt hd 0 rfl) rfl (lv_at hl 3 rfl) ?_
  refine law_thrown hC hth hL hS hl.1 hc hs (dAt hd 1 rfl) (fun ad2 H1 locs1 hL1 hS1 => ?_)
  refine lv_iload hx hb (dAt hd 2 rfl) (lv_at hl 0 rfl) ?_
  refine lv_icmp_eq (tgt := pc + 11) hx hb (dAt hd 3 rfl) (by omega) (fun _ => ?_) (fun z => absurd rfl z)
  exact lv_goto hx hb (dAt hd 4 rfl) (tgt := 1609) (by omega) (kk ad2 H1 locs1 ls hL1 hS1 (lv_sub hl [1, 2, 3, 4, 5] rfl))
end LAWR
section LAWO
variable {n np nb nz nt tk : Nat} {t : TT}
theorem oq_platform (hI : Inv n np nb nz nt tk t) (a : Int32) : ∃ cd r s' np', Res n np' nb nz nt tk cd s' ∧ (cd ≠ 0 → np' = np) ∧ (∀ (l : Launch), l.stackTraces = false → ∀ (D : va_G) (X : Nat → ClassId) (ad : Nat → Nat → Nat), CE l yX4_platform (Cond.code yX4_platform cX4_platform 2 (some .int) :: LT) { frames := 8, cells := 3, slots := 20, locals := 150 } D X ad (MS np nb nz nt) [.inr (.inl (0, 0)), .inl a] (over t) 3 20 (fun v M' t1 => PO cd r (over s') v t1 ∧ M' = MS np' nb nz nt) (PX [IAE9, ISE9] cd (over s'))) ∧ MdI cd r s' (fun post px => P_X5_platform MM post px 0 a t) := by
  rcases md_platform hI a with ⟨z, hM⟩ | ⟨z1, z2, z3, hM⟩ | ⟨z1, z2, z3, hM⟩
  · exact ⟨1, 0, _, np, res_bad hI (by omega), fun _ => rfl, fun l hst D X ad => c_X4_platform hst D X ad hI a (fun _ => ⟨by decide, rfl, over_thr.symm⟩) (fun y1 y2 _ => z.elim (fun q => absurd q y1) (fun q => absurd y2 q.2)) (fun y1 y2 _ => z.elim (fun q => absurd q y1) (fun q => absurd y2 q.2)), hM⟩
  · exact ⟨2, 0, _, np, res_bad hI (by omega), fun _ => rfl, fun l hst D X ad => c_X4_platform hst D X ad hI a (fun z => z.elim (fun q => absurd q z1) (fun q => absurd z2 q.2)) (fun _ _ _ => ⟨by decide, rfl, over_thr.symm⟩) (fun _ _ q => absurd q (by omega)), hM⟩
  · exact ⟨0, nI np, _, np + 1, ⟨by omega, nI_0.symm, platS_inv hI z3⟩, fun q => absurd rfl q, fun l hst D X ad => c_X4_platform hst D X ad hI a (fun z => z.elim (fun q => absurd q z1) (fun q => absurd z2 q.2)) (fun _ _ q => absurd q (by omega)) (fun _ _ _ => ⟨⟨rfl, rfl, rfl⟩, rfl⟩), hM⟩
theorem oq_beacon (hI : Inv n np nb nz nt tk t) (a : Int32) : ∃ cd r s' nb', Res n np nb' nz nt tk cd s' ∧ (cd ≠ 0 → nb' = nb) ∧ (∀ (l : Launch), l.stackTraces = false → ∀ (D : va_G) (X : Nat → ClassId) (ad : Nat → Nat → Nat), CE l yX4_beacon (Cond.code yX4_beacon cX4_beacon 2 (some .int) :: LT) { frames := 8, cells := 3, slots := 14, locals := 150 } D X ad (MS np nb nz nt) [.inr (.inl (0, 0)), .inl a] (over t) 3 14 (fun v M' t1 => PO cd r (over s') v t1 ∧ M' = MS np nb' nz nt) (PX [IAE9, ISE9] cd (over s'))) ∧ MdI cd r s' (fun post px => P_X5_beacon MM post px 0 a t) := by
  rcases md_beacon hI a with ⟨z, hM⟩ | ⟨z1, z2, z3, hM⟩ | ⟨z1, z2, z3, hM⟩
  · exact ⟨1, 0, _, nb, res_bad hI (by omega), fun _ => rfl, fun l hst D X ad => c_X4_beacon hst D X ad hI a (fun _ => ⟨by decide, rfl, over_thr.symm⟩) (fun y1 y2 _ => z.elim (fun q => absurd q y1) (fun q => absurd y2 q.2)) (fun y1 y2 _ => z.elim (fun q => absurd q y1) (fun q => absurd y2 q.2)), hM⟩
  · exact ⟨2, 0, _, nb, res_bad hI (by omega), fun _ => rfl, fun l hst D X ad => c_X4_beacon hst D X ad hI a (fun z => z.elim (fun q => absurd q z1) (fun q => absurd z2 q.2)) (fun _ _ _ => ⟨by decide, rfl, over_thr.symm⟩) (fun _ _ q => absurd q (by omega)), hM⟩
  · exact ⟨0, nI nb, _, nb + 1, ⟨by omega, nI_0.symm, beaS_inv hI z3⟩, fun q => absurd rfl q, fun l hst D X ad => c_X4_beacon hst D X ad hI a (fun z => z.elim (fun q => absurd q z1) (fun q => absurd z2 q.2)) (fun _ _ q => absurd q (by omega)) (fun _ _ _ => ⟨⟨rfl, rfl, rfl⟩, rfl⟩), hM⟩
theorem oq_zone (hI : Inv n np nb nz nt tk t) (a a2 : Int32) : ∃ cd r s' nz', Res n np nb nz' nt tk cd s' ∧ (cd ≠ 0 → nz' = nz) ∧ (∀ (l : Launch), l.stackTraces = false → ∀ (D : va_G) (X : Nat → ClassId) (ad : Nat → Nat → Nat), CE l yX4_zone (Cond.code yX4_zone cX4_zone 3 (some .int) :: LT) { frames := 8, cells := 4, slots := 21, locals := 150 } D X ad (MS np nb nz nt) [.inr (.inl (0, 0)), .inl a, .inl a2] (over t) 4 21 (fun v M' t1 => PO cd r (over s') v t1 ∧ M' = MS np nb nz' nt) (PX [IAE9, ISE9] cd (over s'))) ∧ MdI cd r s' (fun post px => P_X5_zone MM post px 0 a a2 t) := by
  rcases md_zone hI a a2 with ⟨z, hM⟩ | ⟨z1, z2, z, hM⟩ | ⟨z1, z2, z3, z4, z5, hM⟩ | ⟨z1, z2, z3, z4, z5, hM⟩
  · exact ⟨1, 0, _, nz, res_bad hI (by omega), fun _ => rfl, fun l hst D X ad => c_X4_zone hst D X ad hI a a2 (fun _ => ⟨by decide, rfl, over_thr.symm⟩) (fun y1 y2 _ => z.elim (fun q => absurd q y1) (fun q => absurd y2 q.2)) (fun y1 y2 _ _ _ => z.elim (fun q => absurd q y1) (fun q => absurd y2 q.2)) (fun y1 y2 _ _ _ => z.elim (fun q => absurd q y1) (fun q => absurd y2 q.2)), hM⟩
  · exact ⟨1, 0, _, nz, res_bad hI (by omega), fun _ => rfl, fun l hst D X ad => c_X4_zone hst D X ad hI a a2 (fun _ => ⟨by decide, rfl, over_thr.symm⟩) (fun _ _ _ => ⟨by decide, rfl, over_thr.symm⟩) (fun _ _ y1 y2 _ => z.elim (fun q => absurd q y1) (fun q => absurd y2 q.2)) (fun _ _ y1 y2 _ => z.elim (fun q => absurd q y1) (fun q => absurd y2 q.2)), hM⟩
  · exact ⟨2, 0, _, nz, res_bad hI (by omega), fun _ => rfl, fun l hst D X ad => c_X4_zone hst D X ad hI a a2 (fun z => z.elim (fun q => absurd q z1) (fun q => absurd z2 q.2)) (fun _ _ z => z.elim (fun q => absurd q z3) (fun q => absurd z4 q.2)) (fun _ _ _ _ _ => ⟨by decide, rfl, over_thr.symm⟩) (fun _ _ _ _ q => absurd q (by omega)), hM⟩
  · exact ⟨0, nI nz, _, nz + 1, ⟨by omega, nI_0.symm, zonS_inv hI z5⟩, fun q => absurd rfl q, fun l hst D X ad => c_X4_zone hst D X ad hI a a2 (fun z => z.elim (fun q => absurd q z1) (fun q => absurd z2 q.2)) (fun _ _ z => z.elim (fun q => absurd q z3) (fun q => absurd z4 q.2)) (fun _ _ _ _ q => absurd q (by omega)) (fun _ _ _ _ _ => ⟨⟨rfl, rfl, rfl⟩, rfl⟩), hM⟩
theorem oq_train (hI : Inv n np nb nz nt tk t) (a : Int32) : ∃ cd r s' nt', Res n np nb nz nt' tk cd s' ∧ (cd ≠ 0 → nt' = nt) ∧ (∀ (l : Launch), l.stackTraces = false → ∀ (D : va_G) (X : Nat → ClassId) (ad : Nat → Nat → Nat), CE l yX4_train (Cond.code yX4_train cX4_train 2 (some .int) :: LT) { frames := 8, cells := 5, slots := 2030, locals := 150 } D X ad (MS np nb nz nt) [.inr (.inl (0, 0)), .inl a] (over t) 5 2030 (fun v M' t1 => PO cd r (over s') v t1 ∧ M' = MS np nb nz nt') (PX [IAE9, ISE9] cd (over s'))) ∧ MdI cd r s' (fun post px => P_X5_train MM post px 0 a t) := by
  rcases md_train hI a with ⟨z, hM⟩ | ⟨z1, z2, z3, hM⟩ | ⟨z1, z2, z3, z4, hM⟩
  · exact ⟨1, 0, _, nt, res_bad hI (by omega), fun _ => rfl, fun l hst D X ad => c_X4_train hst D X ad hI a (fun _ => ⟨by decide, rfl, over_thr.symm⟩) (fun y1 y2 _ => z.elim (fun q => absurd q y1) (fun q => absurd y2 q.2)) (fun y1 y2 _ _ => z.elim (fun q => absurd q y1) (fun q => absurd y2 q.2)), hM⟩
  · exact ⟨2, 0, _, nt, res_bad hI (by omega), fun _ => rfl, fun l hst D X ad => c_X4_train hst D X ad hI a (fun z => z.elim (fun q => absurd q z1) (fun q => absurd z2 q.2)) (fun _ _ _ => ⟨by decide, rfl, over_thr.symm⟩) (fun _ _ q1 q2 => z3.elim (fun q => absurd q (by omega)) (fun q => absurd q2 (by rw [q.2]; decide))), hM⟩
  · exact ⟨0, nI nt, _, nt + 1, ⟨by omega, by rw [dealR_ne (by decide)]; exact nI_0.symm, (traS_inv hI z3).deal9 (nt + 1) (Nat.le_refl _)⟩, fun q => absurd rfl q, fun l hst D X ad => c_X4_train hst D X ad hI a (fun z => z.elim (fun q => absurd q z1) (fun q => absurd z2 q.2)) (fun _ _ q => q.elim (fun q => absurd q (by omega)) (fun q => absurd q.2 (by rw [z4]; decide))) (fun _ _ _ _ => ⟨⟨rfl, rfl, rfl⟩, rfl⟩), hM⟩
end LAWO
