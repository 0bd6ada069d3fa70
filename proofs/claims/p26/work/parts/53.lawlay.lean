/-! printed (wip/p26/law.py): the law lays the line and puts the trains in -/
theorem dL_law_19 : decode cL_law 19 = .ok (.iload 4, 2) := by decide +kernel
theorem dL_law_21 : decode cL_law 21 = .ok (.bipush 6, 2) := by decide +kernel
theorem dL_law_23 : decode cL_law 23 = .ok (.if_icmp .ge 54, 3) := by decide +kernel
theorem dL_law_26 : decode cL_law 26 = .ok (.aload_n 1, 1) := by decide +kernel
theorem dL_law_27 : decode cL_law 27 = .ok (.sipush 600, 3) := by decide +kernel
theorem dL_law_30 : decode cL_law 30 = .ok (.sipush 830, 3) := by decide +kernel
theorem dL_law_33 : decode cL_law 33 = .ok (.iload 4, 2) := by decide +kernel
theorem dL_law_35 : decode cL_law 35 = .ok (.imul, 1) := by decide +kernel
theorem dL_law_36 : decode cL_law 36 = .ok (.iadd, 1) := by decide +kernel
theorem dL_law_37 : decode cL_law 37 = .ok (.aload_n 0, 1) := by decide +kernel
theorem dL_law_38 : decode cL_law 38 = .ok (.iload 4, 2) := by decide +kernel
theorem dL_law_40 : decode cL_law 40 = .ok (.invokestatic 49, 3) := by decide +kernel
theorem dL_law_43 : decode cL_law 43 = .ok (.bipush 100, 2) := by decide +kernel
theorem dL_law_45 : decode cL_law 45 = .ok (.irem, 1) := by decide +kernel
theorem dL_law_46 : decode cL_law 46 = .ok (.iadd, 1) := by decide +kernel
theorem dL_law_47 : decode cL_law 47 = .ok (.invokevirtual 53, 3) := by decide +kernel
theorem dL_law_50 : decode cL_law 50 = .ok (.pop, 1) := by decide +kernel
theorem dL_law_51 : decode cL_law 51 = .ok (.aload_n 1, 1) := by decide +kernel
theorem dL_law_52 : decode cL_law 52 = .ok (.iload 4, 2) := by decide +kernel
theorem dL_law_54 : decode cL_law 54 = .ok (.aload_n 0, 1) := by decide +kernel
theorem dL_law_55 : decode cL_law 55 = .ok (.iload 4, 2) := by decide +kernel
theorem dL_law_57 : decode cL_law 57 = .ok (.invokestatic 49, 3) := by decide +kernel
theorem dL_law_60 : decode cL_law 60 = .ok (.sipush 128, 3) := by decide +kernel
theorem dL_law_63 : decode cL_law 63 = .ok (.idiv, 1) := by decide +kernel
theorem dL_law_64 : decode cL_law 64 = .ok (.bipush 10, 2) := by decide +kernel
theorem dL_law_66 : decode cL_law 66 = .ok (.irem, 1) := by decide +kernel
theorem dL_law_67 : decode cL_law 67 = .ok (.invokevirtual 56, 3) := by decide +kernel
theorem dL_law_70 : decode cL_law 70 = .ok (.pop, 1) := by decide +kernel
theorem dL_law_71 : decode cL_law 71 = .ok (.iinc 4 1, 3) := by decide +kernel
theorem dL_law_74 : decode cL_law 74 = .ok (.goto (-55), 3) := by decide +kernel
theorem dL_law_80 : decode cL_law 80 = .ok (.iload 4, 2) := by decide +kernel
theorem dL_law_82 : decode cL_law 82 = .ok (.bipush 12, 2) := by decide +kernel
theorem dL_law_84 : decode cL_law 84 = .ok (.if_icmp .ge 38, 3) := by decide +kernel
theorem dL_law_87 : decode cL_law 87 = .ok (.aload_n 1, 1) := by decide +kernel
theorem dL_law_88 : decode cL_law 88 = .ok (.sipush 200, 3) := by decide +kernel
theorem dL_law_91 : decode cL_law 91 = .ok (.sipush 400, 3) := by decide +kernel
theorem dL_law_94 : decode cL_law 94 = .ok (.iload 4, 2) := by decide +kernel
theorem dL_law_96 : decode cL_law 96 = .ok (.imul, 1) := by decide +kernel
theorem dL_law_97 : decode cL_law 97 = .ok (.iadd, 1) := by decide +kernel
theorem dL_law_98 : decode cL_law 98 = .ok (.aload_n 0, 1) := by decide +kernel
theorem dL_law_99 : decode cL_law 99 = .ok (.bipush 6, 2) := by decide +kernel
theorem dL_law_101 : decode cL_law 101 = .ok (.iload 4, 2) := by decide +kernel
theorem dL_law_103 : decode cL_law 103 = .ok (.iadd, 1) := by decide +kernel
theorem dL_law_104 : decode cL_law 104 = .ok (.invokestatic 49, 3) := by decide +kernel
theorem dL_law_107 : decode cL_law 107 = .ok (.sipush 300, 3) := by decide +kernel
theorem dL_law_110 : decode cL_law 110 = .ok (.irem, 1) := by decide +kernel
theorem dL_law_111 : decode cL_law 111 = .ok (.iadd, 1) := by decide +kernel
theorem dL_law_112 : decode cL_law 112 = .ok (.invokevirtual 59, 3) := by decide +kernel
theorem dL_law_115 : decode cL_law 115 = .ok (.pop, 1) := by decide +kernel
theorem dL_law_116 : decode cL_law 116 = .ok (.iinc 4 1, 3) := by decide +kernel
theorem dL_law_119 : decode cL_law 119 = .ok (.goto (-39), 3) := by decide +kernel
theorem dL_law_125 : decode cL_law 125 = .ok (.iload 4, 2) := by decide +kernel
theorem dL_law_127 : decode cL_law 127 = .ok (.iconst 4, 1) := by decide +kernel
theorem dL_law_128 : decode cL_law 128 = .ok (.if_icmp .ge 78, 3) := by decide +kernel
theorem dL_law_131 : decode cL_law 131 = .ok (.aload_n 2, 1) := by decide +kernel
theorem dL_law_132 : decode cL_law 132 = .ok (.iload 4, 2) := by decide +kernel
theorem dL_law_134 : decode cL_law 134 = .ok (.sipush 700, 3) := by decide +kernel
theorem dL_law_137 : decode cL_law 137 = .ok (.sipush 1100, 3) := by decide +kernel
theorem dL_law_140 : decode cL_law 140 = .ok (.iload 4, 2) := by decide +kernel
theorem dL_law_142 : decode cL_law 142 = .ok (.imul, 1) := by decide +kernel
theorem dL_law_143 : decode cL_law 143 = .ok (.iadd, 1) := by decide +kernel
theorem dL_law_144 : decode cL_law 144 = .ok (.aload_n 0, 1) := by decide +kernel
theorem dL_law_145 : decode cL_law 145 = .ok (.bipush 18, 2) := by decide +kernel
theorem dL_law_147 : decode cL_law 147 = .ok (.iload 4, 2) := by decide +kernel
theorem dL_law_149 : decode cL_law 149 = .ok (.iadd, 1) := by decide +kernel
theorem dL_law_150 : decode cL_law 150 = .ok (.invokestatic 49, 3) := by decide +kernel
theorem dL_law_153 : decode cL_law 153 = .ok (.sipush 600, 3) := by decide +kernel
theorem dL_law_156 : decode cL_law 156 = .ok (.irem, 1) := by decide +kernel
theorem dL_law_157 : decode cL_law 157 = .ok (.iadd, 1) := by decide +kernel
theorem dL_law_158 : decode cL_law 158 = .ok (.iastore, 1) := by decide +kernel
theorem dL_law_159 : decode cL_law 159 = .ok (.aload_n 3, 1) := by decide +kernel
theorem dL_law_160 : decode cL_law 160 = .ok (.iload 4, 2) := by decide +kernel
theorem dL_law_162 : decode cL_law 162 = .ok (.aload_n 2, 1) := by decide +kernel
theorem dL_law_163 : decode cL_law 163 = .ok (.iload 4, 2) := by decide +kernel
theorem dL_law_165 : decode cL_law 165 = .ok (.iaload, 1) := by decide +kernel
theorem dL_law_166 : decode cL_law 166 = .ok (.iconst 1, 1) := by decide +kernel
theorem dL_law_167 : decode cL_law 167 = .ok (.iadd, 1) := by decide +kernel
theorem dL_law_168 : decode cL_law 168 = .ok (.aload_n 0, 1) := by decide +kernel
theorem dL_law_169 : decode cL_law 169 = .ok (.bipush 18, 2) := by decide +kernel
theorem dL_law_171 : decode cL_law 171 = .ok (.iload 4, 2) := by decide +kernel
theorem dL_law_173 : decode cL_law 173 = .ok (.iadd, 1) := by decide +kernel
theorem dL_law_174 : decode cL_law 174 = .ok (.invokestatic 49, 3) := by decide +kernel
theorem dL_law_177 : decode cL_law 177 = .ok (.sipush 1024, 3) := by decide +kernel
theorem dL_law_180 : decode cL_law 180 = .ok (.idiv, 1) := by decide +kernel
theorem dL_law_181 : decode cL_law 181 = .ok (.sipush 200, 3) := by decide +kernel
theorem dL_law_184 : decode cL_law 184 = .ok (.irem, 1) := by decide +kernel
theorem dL_law_185 : decode cL_law 185 = .ok (.iadd, 1) := by decide +kernel
theorem dL_law_186 : decode cL_law 186 = .ok (.iastore, 1) := by decide +kernel
theorem dL_law_187 : decode cL_law 187 = .ok (.aload_n 1, 1) := by decide +kernel
theorem dL_law_188 : decode cL_law 188 = .ok (.aload_n 2, 1) := by decide +kernel
theorem dL_law_189 : decode cL_law 189 = .ok (.iload 4, 2) := by decide +kernel
theorem dL_law_191 : decode cL_law 191 = .ok (.iaload, 1) := by decide +kernel
theorem dL_law_192 : decode cL_law 192 = .ok (.aload_n 3, 1) := by decide +kernel
theorem dL_law_193 : decode cL_law 193 = .ok (.iload 4, 2) := by decide +kernel
theorem dL_law_195 : decode cL_law 195 = .ok (.iaload, 1) := by decide +kernel
theorem dL_law_196 : decode cL_law 196 = .ok (.invokevirtual 62, 3) := by decide +kernel
theorem dL_law_199 : decode cL_law 199 = .ok (.pop, 1) := by decide +kernel
theorem dL_law_200 : decode cL_law 200 = .ok (.iinc 4 1, 3) := by decide +kernel
theorem dL_law_203 : decode cL_law 203 = .ok (.goto (-78), 3) := by decide +kernel
theorem dL_law_212 : decode cL_law 212 = .ok (.iload 5, 2) := by decide +kernel
theorem dL_law_214 : decode cL_law 214 = .ok (.iconst 5, 1) := by decide +kernel
theorem dL_law_215 : decode cL_law 215 = .ok (.if_icmp .ge 54, 3) := by decide +kernel
theorem dL_law_218 : decode cL_law 218 = .ok (.iload 4, 2) := by decide +kernel
theorem dL_law_220 : decode cL_law 220 = .ok (.ifCond .eq 40, 3) := by decide +kernel
theorem dL_law_223 : decode cL_law 223 = .ok (.aload_n 1, 1) := by decide +kernel
theorem dL_law_224 : decode cL_law 224 = .ok (.sipush 4300, 3) := by decide +kernel
theorem dL_law_227 : decode cL_law 227 = .ok (.sipush 1000, 3) := by decide +kernel
theorem dL_law_230 : decode cL_law 230 = .ok (.iload 5, 2) := by decide +kernel
theorem dL_law_232 : decode cL_law 232 = .ok (.imul, 1) := by decide +kernel
theorem dL_law_233 : decode cL_law 233 = .ok (.isub, 1) := by decide +kernel
theorem dL_law_234 : decode cL_law 234 = .ok (.aload_n 0, 1) := by decide +kernel
theorem dL_law_235 : decode cL_law 235 = .ok (.bipush 22, 2) := by decide +kernel
theorem dL_law_237 : decode cL_law 237 = .ok (.iload 5, 2) := by decide +kernel
theorem dL_law_239 : decode cL_law 239 = .ok (.iadd, 1) := by decide +kernel
theorem dL_law_240 : decode cL_law 240 = .ok (.invokestatic 49, 3) := by decide +kernel
theorem dL_law_243 : decode cL_law 243 = .ok (.sipush 500, 3) := by decide +kernel
theorem dL_law_246 : decode cL_law 246 = .ok (.irem, 1) := by decide +kernel
theorem dL_law_247 : decode cL_law 247 = .ok (.iadd, 1) := by decide +kernel
theorem dL_law_248 : decode cL_law 248 = .ok (.invokevirtual 65, 3) := by decide +kernel
theorem dL_law_251 : decode cL_law 251 = .ok (.iload 5, 2) := by decide +kernel
theorem dL_law_253 : decode cL_law 253 = .ok (.if_icmp .ne 7, 3) := by decide +kernel
theorem dL_law_256 : decode cL_law 256 = .ok (.iconst 1, 1) := by decide +kernel
theorem dL_law_257 : decode cL_law 257 = .ok (.goto 4, 3) := by decide +kernel
theorem dL_law_261 : decode cL_law 261 = .ok (.istore 4, 2) := by decide +kernel
theorem dL_law_263 : decode cL_law 263 = .ok (.iinc 5 1, 3) := by decide +kernel
theorem dL_law_266 : decode cL_law 266 = .ok (.goto (-54), 3) := by decide +kernel
section LW53
variable {p : Program} {l : Launch} {e : Env} {s : State} {m : MethodId} {below : List Frame} {meth : Method} {c : Code} {Q : State → Prop} {D : va_G} {X : Nat → ClassId} {b L : Nat} {xs : Nat → Int32} {fa ta x0 : Nat}
set_option maxHeartbeats 4000000 in
theorem law_l1 (hC : LC p l s m c D X b L xs) (kend : ∀ (n : Nat) (t : TT) (ad : Nat → Nat → Nat) (H : Heap) (locs : List Loc) (ls : Array Slot) (cl sl : Nat) (f g : Nat → Int32), GU n 6 0 0 0 f g t → LSt D X ad (AL s) 6 0 0 0 t fa ta f g x0 H → va_S (AL s) s.heap H locs → lv_has ls 10 [(4, .int (nI 6)), (3, .ref ta), (2, .ref fa), (1, .ref x0), (0, .ref b)] → n ≤ 0 + 6 → cl ≤ 10 + 6 * 1 → sl ≤ 60 + 6 * 8 → W p l e room_1 s m #[Value.ref b] below meth c H locs cl sl Q (F0 m 77 ls [])) : ∀ q p9, p9 + q = 6 → ∀ (n : Nat) (t : TT) (ad : Nat → Nat → Nat) (H : Heap) (locs : List Loc) (ls : Array Slot) (cl sl : Nat) (f g : Nat → Int32), GU n p9 0 0 0 f g t → LSt D X ad (AL s) p9 0 0 0 t fa ta f g x0 H → va_S (AL s) s.heap H locs → lv_has ls 10 [(4, .int (nI p9)), (3, .ref ta), (2, .ref fa), (1, .ref x0), (0, .ref b)] → n ≤ 0 + p9 → cl ≤ 10 + p9 * 1 → sl ≤ 60 + p9 * 8 → W p l e room_1 s m #[Value.ref b] below meth c H locs cl sl Q (F0 m 19 ls []) := by
  intro q
  induction q with
  | zero =>
    intro p9 hp n t ad H locs ls cl sl f g hG hL hS hl hn hc hs
    have : p9 = 6 := by omega
    subst this
    obtain ⟨hx, hb, hml, hts, hown, hK, hE, hX, hbl, hL9, hst⟩ := id hC
    refine lv_iload hx hb dL_law_19 (lv_at hl 0 rfl) ?_
    refine lv_bipush (v := 6) hx hb dL_law_21 (by decide +kernel) ?_
    refine lv_icmp_ge hx hb dL_law_23 (tgt := 77) (by decide) (fun _ => ?_) (fun z => absurd (nI_le (a := 6) (b := 6) (by omega) (by omega)) z)
    exact kend n t ad H locs ls cl sl f g hG hL hS hl hn hc hs
  | succ q ih =>
    intro p9 hp n t ad H locs ls cl sl f g hG hL hS hl hn hc hs
    obtain ⟨hx, hb, hml, hts, hown, hK, hE, hX, hbl, hL9, hst⟩ := id hC
    refine lv_iload hx hb dL_law_19 (lv_at hl 0 rfl) ?_
    refine lv_bipush (v := 6) hx hb dL_law_21 (by decide +kernel) ?_
    refine lv_icmp_ge hx hb dL_law_23 (tgt := 77) (by decide) (fun z => absurd z (nI_ge (a := p9) (b := 6) (by omega) (by omega))) (fun _ => ?_)
    refine lv_aload_n hx hb dL_law_26 rfl (lv_at hl 3 rfl) ?_
    refine lv_sipush (v := 600) hx hb dL_law_27 (by decide +kernel) ?_
    refine lv_sipush (v := 830) hx hb dL_law_30 (by decide +kernel) ?_
    refine lv_iload hx hb dL_law_33 (lv_at hl 0 rfl) ?_
    refine lv_imul hx hb dL_law_35 ?_
    refine lv_iadd hx hb dL_law_36 ?_
    refine lv_aload_n hx hb dL_law_37 rfl (lv_at hl 4 rfl) ?_
    refine lv_iload hx hb dL_law_38 (lv_at hl 0 rfl) ?_
    refine law_told hC hL hS hl.1 (k := p9) (by omega) (rest := [.int (600 + (830 * (nI p9))), .ref x0]) (by exact Nat.le_of_ble_eq_true rfl) (by omega) (by omega) dL_law_40 (fun v H1 locs1 hv hL1 hS1 => ?_)
    refine lv_bipush (v := 100) hx hb dL_law_43 (by decide +kernel) ?_
    refine lv_irem hx hb dL_law_45 (by decide +kernel) ?_
    refine lv_iadd hx hb dL_law_46 ?_
    have eA : ((600 : Int32) + 830 * nI p9) + (nI v - nI v / 100 * 100) = nI (600 + 830 * p9 + v % 100) := by
      rw [show nI v - nI v / 100 * 100 = nI (v % 100) from pk_rem (d := 100) hv (by omega) (by omega)]
      show (nI 600 + nI 830 * nI p9) + nI (v % 100) = _
      rw [pk_mul, nI_add, nI_add]
    have q1 : ¬ nI (600 + 830 * p9 + v % 100) < 100 := nI_nlt (a := (600 + 830 * p9 + v % 100)) (b := 100) (by omega) (by omega)
    have q2 : nI (600 + 830 * p9 + v % 100) ≤ 5000 := nI_le (a := (600 + 830 * p9 + v % 100)) (b := 5000) (by omega) (by omega)
    refine W.eq (g2 := F0 m 47 ls ((([.inr (.inl (0, 0)), .inl (nI (600 + 830 * p9 + v % 100))] : List VV).map (toV ad)).reverse ++ [])) (by rw [eA, ← hL.2.2.2.2.2.2.2]; rfl) ?_
    refine law_E (as := [.inr (.inl (0, 0)), .inl (nI (600 + 830 * p9 + v % 100))]) (n := 1) hC (Rr := fun v9 t9 => v9 = some (.inl (nI p9)) ∧ t9 = platS t p9 (nI (600 + 830 * p9 + v % 100))) (c_X4_platform hst D X ad hG.1 (nI (600 + 830 * p9 + v % 100)) (fun z => z.elim (fun q => q1 q) (fun q => q.2 q2)) (fun _ _ z => by omega) (fun _ _ _ => ⟨⟨_, ⟨rfl, rfl⟩, rfl⟩, rfl⟩)) ⟨(LT_in (by decide +kernel) (by decide +kernel) : Cond.methodLink R_law 53 yX4_platform ∈ LT), LT_in (by decide +kernel) (by decide +kernel), LT_in (by decide +kernel) (by decide +kernel), LT_in (by decide +kernel) (by decide +kernel), LT_in (by decide +kernel) (by decide +kernel)⟩ (by decide +kernel) ⟨Nat.le_of_ble_eq_true rfl, Nat.le_of_ble_eq_true rfl⟩ rfl rfl rfl rfl rfl hL1 hS1 hl.1 (rest := []) (by exact Nat.le_of_ble_eq_true rfl) (by omega) (by omega) dL_law_47 (fun v9 t9 ad2 H2 locs2 hR2 hL2 hS2 => ?_)
    obtain ⟨rfl, rfl⟩ := hR2
    have hG2 := hG.plat (a := nI (600 + 830 * p9 + v % 100)) (show p9 < 6 by omega)
    refine W.eq (g2 := F0 m 50 ls [.int (nI p9)]) rfl ?_
    refine lv_pop hx hb dL_law_50 rfl ?_
    refine lv_aload_n hx hb dL_law_51 rfl (lv_at hl 3 rfl) ?_
    refine lv_iload hx hb dL_law_52 (lv_at hl 0 rfl) ?_
    refine lv_aload_n hx hb dL_law_54 rfl (lv_at hl 4 rfl) ?_
    refine lv_iload hx hb dL_law_55 (lv_at hl 0 rfl) ?_
    refine law_told hC hL2 hS2 hl.1 (k := p9) (by omega) (rest := [.int (nI p9), .ref x0]) (by exact Nat.le_of_ble_eq_true rfl) (by omega) (by omega) dL_law_57 (fun u H3 locs3 hu hL23 hS23 => ?_)
    refine lv_sipush (v := 128) hx hb dL_law_60 (by decide +kernel) ?_
    refine lv_idiv hx hb dL_law_63 (by decide +kernel) ?_
    refine lv_bipush (v := 10) hx hb dL_law_64 (by decide +kernel) ?_
    refine lv_irem hx hb dL_law_66 (by decide +kernel) ?_
    have eB : nI u / 128 - nI u / 128 / 10 * 10 = nI (u / 128 % 10) := by
      rw [show nI u / 128 = nI (u / 128) from pk_div (d := 128) hu (by omega) (by omega)]
      exact pk_rem (d := 10) (by omega) (by omega) (by omega)
    have r1 : ¬ nI (u / 128 % 10) < 0 := nI_pos (by omega)
    have r2 : nI (u / 128 % 10) ≤ 9 := nI_le (a := (u / 128 % 10)) (b := 9) (by omega) (by omega)
    have x2 : ad2 0 0 = x0 := hL23.2.2.2.2.2.2.2
    refine W.eq (g2 := F0 m 67 ls ((([.inr (.inl (0, 0)), .inl (nI p9), .inl (nI (u / 128 % 10))] : List VV).map (toV ad2)).reverse ++ [])) (by rw [eB, ← x2]; rfl) ?_
    refine law_E (as := [.inr (.inl (0, 0)), .inl (nI p9), .inl (nI (u / 128 % 10))]) (n := 2) hC (Rr := fun v9 t9 => (∃ r, v9 = some (.inl r)) ∧ t9 = up2 (platS t p9 (nI (600 + 830 * p9 + v % 100))) 5 p9 (nI (u / 128 % 10))) (c_X4_rate hst (px := fun _ _ => False) (post := fun v9 t1 => ∃ t9, ((∃ r, v9 = some (.inl r)) ∧ t9 = up2 (platS t p9 (nI (600 + 830 * p9 + v % 100))) 5 p9 (nI (u / 128 % 10))) ∧ t1 = over t9) 0 (nI p9) (nI (u / 128 % 10)) _ (sc_rate hG2.1 (show p9 < p9 + 1 by omega) r1 r2 ⟨_, ⟨⟨_, rfl⟩, rfl⟩, rfl⟩)).toE ⟨(LT_in (by decide +kernel) (by decide +kernel) : Cond.methodLink R_law 56 yX4_rate ∈ LT), ws_X4_rate.1, ws_X4_rate.2.1, ws_X4_rate.2.2.1, ws_X4_rate.2.2.2⟩ (by decide +kernel) ⟨Nat.le_of_ble_eq_true rfl, Nat.le_of_ble_eq_true rfl⟩ rfl rfl rfl rfl rfl hL23 hS23 hl.1 (rest := []) (by exact Nat.le_of_ble_eq_true rfl) (by omega) (by omega) dL_law_67 (fun v9 t9 ad4 H4 locs4 hR4 hL4 hS4 => ?_)
    obtain ⟨⟨r9, rfl⟩, rfl⟩ := hR4
    refine W.eq (g2 := F0 m 70 ls [.int r9]) rfl ?_
    refine lv_pop hx hb dL_law_70 rfl ?_
    refine lv_iinc (k := 0) (lv' := [(4, .int (nI (p9 + 1))), (3, .ref ta), (2, .ref fa), (1, .ref x0), (0, .ref b)]) hx hb dL_law_71 hl rfl (nI_1 p9) (by decide) rfl (fun ls1 hl1 => ?_)
    refine lv_goto hx hb dL_law_74 (tgt := 19) (by decide) ?_
    exact ih (p9 + 1) (by omega) _ _ _ _ _ _ _ _ f g (hG2.rate (show p9 < p9 + 1 by omega) (show (u / 128 % 10) ≤ 9 by omega)) hL4 hS4 hl1 (by omega) (by omega) (by omega)
set_option maxHeartbeats 4000000 in
theorem law_l2 (hC : LC p l s m c D X b L xs) (kend : ∀ (n : Nat) (t : TT) (ad : Nat → Nat → Nat) (H : Heap) (locs : List Loc) (ls : Array Slot) (cl sl : Nat) (f g : Nat → Int32), GU n 6 12 0 0 f g t → LSt D X ad (AL s) 6 12 0 0 t fa ta f g x0 H → va_S (AL s) s.heap H locs → lv_has ls 10 [(4, .int (nI 12)), (3, .ref ta), (2, .ref fa), (1, .ref x0), (0, .ref b)] → n ≤ 6 + 12 → cl ≤ 20 + 12 * 1 → sl ≤ 120 + 12 * 2 → W p l e room_1 s m #[Value.ref b] below meth c H locs cl sl Q (F0 m 122 ls [])) : ∀ q p9, p9 + q = 12 → ∀ (n : Nat) (t : TT) (ad : Nat → Nat → Nat) (H : Heap) (locs : List Loc) (ls : Array Slot) (cl sl : Nat) (f g : Nat → Int32), GU n 6 p9 0 0 f g t → LSt D X ad (AL s) 6 p9 0 0 t fa ta f g x0 H → va_S (AL s) s.heap H locs → lv_has ls 10 [(4, .int (nI p9)), (3, .ref ta), (2, .ref fa), (1, .ref x0), (0, .ref b)] → n ≤ 6 + p9 → cl ≤ 20 + p9 * 1 → sl ≤ 120 + p9 * 2 → W p l e room_1 s m #[Value.ref b] below meth c H locs cl sl Q (F0 m 80 ls []) := by
  intro q
  induction q with
  | zero =>
    intro p9 hp n t ad H locs ls cl sl f g hG hL hS hl hn hc hs
    have : p9 = 12 := by omega
    subst this
    obtain ⟨hx, hb, hml, hts, hown, hK, hE, hX, hbl, hL9, hst⟩ := id hC
    refine lv_iload hx hb dL_law_80 (lv_at hl 0 rfl) ?_
    refine lv_bipush (v := 12) hx hb dL_law_82 (by decide +kernel) ?_
    refine lv_icmp_ge hx hb dL_law_84 (tgt := 122) (by decide) (fun _ => ?_) (fun z => absurd (nI_le (a := 12) (b := 12) (by omega) (by omega)) z)
    exact kend n t ad H locs ls cl sl f g hG hL hS hl hn hc hs
  | succ q ih =>
    intro p9 hp n t ad H locs ls cl sl f g hG hL hS hl hn hc hs
    obtain ⟨hx, hb, hml, hts, hown, hK, hE, hX, hbl, hL9, hst⟩ := id hC
    refine lv_iload hx hb dL_law_80 (lv_at hl 0 rfl) ?_
    refine lv_bipush (v := 12) hx hb dL_law_82 (by decide +kernel) ?_
    refine lv_icmp_ge hx hb dL_law_84 (tgt := 122) (by decide) (fun z => absurd z (nI_ge (a := p9) (b := 12) (by omega) (by omega))) (fun _ => ?_)
    refine lv_aload_n hx hb dL_law_87 rfl (lv_at hl 3 rfl) ?_
    refine lv_sipush (v := 200) hx hb dL_law_88 (by decide +kernel) ?_
    refine lv_sipush (v := 400) hx hb dL_law_91 (by decide +kernel) ?_
    refine lv_iload hx hb dL_law_94 (lv_at hl 0 rfl) ?_
    refine lv_imul hx hb dL_law_96 ?_
    refine lv_iadd hx hb dL_law_97 ?_
    refine lv_aload_n hx hb dL_law_98 rfl (lv_at hl 4 rfl) ?_
    refine lv_bipush (v := 6) hx hb dL_law_99 (by decide +kernel) ?_
    refine lv_iload hx hb dL_law_101 (lv_at hl 0 rfl) ?_
    refine lv_iadd hx hb dL_law_103 ?_
    refine W.eq (g2 := F0 m 104 ls [.int (nI (6 + p9)), .ref b, .int (200 + (400 * (nI p9))), .ref x0]) (by rw [show (6 : Int32) + nI p9 = nI (6 + p9) from nI_add 6 p9]) ?_
    refine law_told hC hL hS hl.1 (k := (6 + p9)) (by omega) (rest := [.int (200 + (400 * (nI p9))), .ref x0]) (by exact Nat.le_of_ble_eq_true rfl) (by omega) (by omega) dL_law_104 (fun v H1 locs1 hv hL1 hS1 => ?_)
    refine lv_sipush (v := 300) hx hb dL_law_107 (by decide +kernel) ?_
    refine lv_irem hx hb dL_law_110 (by decide +kernel) ?_
    refine lv_iadd hx hb dL_law_111 ?_
    have eA : ((200 : Int32) + 400 * nI p9) + (nI v - nI v / 300 * 300) = nI (200 + 400 * p9 + v % 300) := by
      rw [show nI v - nI v / 300 * 300 = nI (v % 300) from pk_rem (d := 300) hv (by omega) (by omega)]
      show (nI 200 + nI 400 * nI p9) + nI (v % 300) = _
      rw [pk_mul, nI_add, nI_add]
    have q1 : ¬ nI (200 + 400 * p9 + v % 300) < 0 := nI_pos (by omega)
    have q2 : nI (200 + 400 * p9 + v % 300) ≤ 5000 := nI_le (a := (200 + 400 * p9 + v % 300)) (b := 5000) (by omega) (by omega)
    refine W.eq (g2 := F0 m 112 ls ((([.inr (.inl (0, 0)), .inl (nI (200 + 400 * p9 + v % 300))] : List VV).map (toV ad)).reverse ++ [])) (by rw [eA, ← hL.2.2.2.2.2.2.2]; rfl) ?_
    refine law_E (as := [.inr (.inl (0, 0)), .inl (nI (200 + 400 * p9 + v % 300))]) (n := 1) hC (Rr := fun v9 t9 => v9 = some (.inl (nI p9)) ∧ t9 = beaS t p9 (nI (200 + 400 * p9 + v % 300))) (c_X4_beacon hst D X ad hG.1 (nI (200 + 400 * p9 + v % 300)) (fun z => z.elim (fun q => q1 q) (fun q => q.2 q2)) (fun _ _ z => by omega) (fun _ _ _ => ⟨⟨_, ⟨rfl, rfl⟩, rfl⟩, rfl⟩)) ⟨(LT_in (by decide +kernel) (by decide +kernel) : Cond.methodLink R_law 59 yX4_beacon ∈ LT), LT_in (by decide +kernel) (by decide +kernel), LT_in (by decide +kernel) (by decide +kernel), LT_in (by decide +kernel) (by decide +kernel), LT_in (by decide +kernel) (by decide +kernel)⟩ (by decide +kernel) ⟨Nat.le_of_ble_eq_true rfl, Nat.le_of_ble_eq_true rfl⟩ rfl rfl rfl rfl rfl hL1 hS1 hl.1 (rest := []) (by exact Nat.le_of_ble_eq_true rfl) (by omega) (by omega) dL_law_112 (fun v9 t9 ad2 H2 locs2 hR2 hL2 hS2 => ?_)
    obtain ⟨rfl, rfl⟩ := hR2
    refine W.eq (g2 := F0 m 115 ls [.int (nI p9)]) rfl ?_
    refine lv_pop hx hb dL_law_115 rfl ?_
    refine lv_iinc (k := 0) (lv' := [(4, .int (nI (p9 + 1))), (3, .ref ta), (2, .ref fa), (1, .ref x0), (0, .ref b)]) hx hb dL_law_116 hl rfl (nI_1 p9) (by decide) rfl (fun ls1 hl1 => ?_)
    refine lv_goto hx hb dL_law_119 (tgt := 80) (by decide) ?_
    exact ih (p9 + 1) (by omega) _ _ _ _ _ _ _ _ f g (hG.bea (show p9 < 12 by omega)) hL2 hS2 hl1 (by omega) (by omega) (by omega)
set_option maxHeartbeats 4000000 in
theorem law_l3 (hC : LC p l s m c D X b L xs) (kend : ∀ (n : Nat) (t : TT) (ad : Nat → Nat → Nat) (H : Heap) (locs : List Loc) (ls : Array Slot) (cl sl : Nat) (f g : Nat → Int32), GU n 6 12 4 0 f g t → LSt D X ad (AL s) 6 12 4 0 t fa ta f g x0 H → va_S (AL s) s.heap H locs → lv_has ls 10 [(4, .int (nI 4)), (3, .ref ta), (2, .ref fa), (1, .ref x0), (0, .ref b)] → n ≤ 18 + 4 → cl ≤ 40 + 4 * 1 → sl ≤ 160 + 4 * 3 → W p l e room_1 s m #[Value.ref b] below meth c H locs cl sl Q (F0 m 206 ls [])) : ∀ q p9, p9 + q = 4 → ∀ (n : Nat) (t : TT) (ad : Nat → Nat → Nat) (H : Heap) (locs : List Loc) (ls : Array Slot) (cl sl : Nat) (f g : Nat → Int32), GU n 6 12 p9 0 f g t → LSt D X ad (AL s) 6 12 p9 0 t fa ta f g x0 H → va_S (AL s) s.heap H locs → lv_has ls 10 [(4, .int (nI p9)), (3, .ref ta), (2, .ref fa), (1, .ref x0), (0, .ref b)] → n ≤ 18 + p9 → cl ≤ 40 + p9 * 1 → sl ≤ 160 + p9 * 3 → W p l e room_1 s m #[Value.ref b] below meth c H locs cl sl Q (F0 m 125 ls []) := by
  intro q
  induction q with
  | zero =>
    intro p9 hp n t ad H locs ls cl sl f g hG hL hS hl hn hc hs
    have : p9 = 4 := by omega
    subst this
    obtain ⟨hx, hb, hml, hts, hown, hK, hE, hX, hbl, hL9, hst⟩ := id hC
    refine lv_iload hx hb dL_law_125 (lv_at hl 0 rfl) ?_
    refine lv_iconst (v := 4) hx hb dL_law_127 (by decide +kernel) ?_
    refine lv_icmp_ge hx hb dL_law_128 (tgt := 206) (by decide) (fun _ => ?_) (fun z => absurd (nI_le (a := 4) (b := 4) (by omega) (by omega)) z)
    exact kend n t ad H locs ls cl sl f g hG hL hS hl hn hc hs
  | succ q ih =>
    intro p9 hp n t ad H locs ls cl sl f g hG hL hS hl hn hc hs
    obtain ⟨hx, hb, hml, hts, hown, hK, hE, hX, hbl, hL9, hst⟩ := id hC
    refine lv_iload hx hb dL_law_125 (lv_at hl 0 rfl) ?_
    refine lv_iconst (v := 4) hx hb dL_law_127 (by decide +kernel) ?_
    refine lv_icmp_ge hx hb dL_law_128 (tgt := 206) (by decide) (fun z => absurd z (nI_ge (a := p9) (b := 4) (by omega) (by omega))) (fun _ => ?_)
    refine lv_aload_n hx hb dL_law_131 rfl (lv_at hl 2 rfl) ?_
    refine lv_iload hx hb dL_law_132 (lv_at hl 0 rfl) ?_
    refine lv_sipush (v := 700) hx hb dL_law_134 (by decide +kernel) ?_
    refine lv_sipush (v := 1100) hx hb dL_law_137 (by decide +kernel) ?_
    refine lv_iload hx hb dL_law_140 (lv_at hl 0 rfl) ?_
    refine lv_imul hx hb dL_law_142 ?_
    refine lv_iadd hx hb dL_law_143 ?_
    refine lv_aload_n hx hb dL_law_144 rfl (lv_at hl 4 rfl) ?_
    refine lv_bipush (v := 18) hx hb dL_law_145 (by decide +kernel) ?_
    refine lv_iload hx hb dL_law_147 (lv_at hl 0 rfl) ?_
    refine lv_iadd hx hb dL_law_149 ?_
    refine W.eq (g2 := F0 m 150 ls [.int (nI (18 + p9)), .ref b, .int (700 + (1100 * (nI p9))), .int (nI p9), .ref fa]) (by rw [show (18 : Int32) + nI p9 = nI (18 + p9) from nI_add 18 p9]) ?_
    refine law_told hC hL hS hl.1 (k := (18 + p9)) (by omega) (rest := [.int (700 + (1100 * (nI p9))), .int (nI p9), .ref fa]) (by exact Nat.le_of_ble_eq_true rfl) (by omega) (by omega) dL_law_150 (fun v H1 locs1 hv hL1 hS1 => ?_)
    refine lv_sipush (v := 600) hx hb dL_law_153 (by decide +kernel) ?_
    refine lv_irem hx hb dL_law_156 (by decide +kernel) ?_
    refine lv_iadd hx hb dL_law_157 ?_
    have eA : ((700 : Int32) + 1100 * nI p9) + (nI v - nI v / 600 * 600) = nI (700 + 1100 * p9 + v % 600) := by
      rw [show nI v - nI v / 600 * 600 = nI (v % 600) from pk_rem (d := 600) hv (by omega) (by omega)]
      show (nI 700 + nI 1100 * nI p9) + nI (v % 600) = _
      rw [pk_mul, nI_add, nI_add]
    refine W.eq (g2 := F0 m 158 ls [.int (nI (700 + 1100 * p9 + v % 600)), .int (nI p9), .ref fa]) (by rw [eA]) ?_
    refine law_ast hC hL1.2.1 hL1.2.2.2.1 hS1 (show p9 < 4 by omega) dL_law_158 (fun H2 locs2 ha2 oq2 hS2 => ?_)
    have hL2 := hL1.setf ha2 oq2
    refine lv_aload_n hx hb dL_law_159 rfl (lv_at hl 1 rfl) ?_
    refine lv_iload hx hb dL_law_160 (lv_at hl 0 rfl) ?_
    refine lv_aload_n hx hb dL_law_162 rfl (lv_at hl 2 rfl) ?_
    refine lv_iload hx hb dL_law_163 (lv_at hl 0 rfl) ?_
    refine law_ald hC hL2.2.1 (show p9 < 4 by omega) dL_law_165 ?_
    refine W.eq (g2 := F0 m 166 ls [.int (nI (700 + 1100 * p9 + v % 600)), .int (nI p9), .ref ta]) (by rw [if_pos rfl]) ?_
    refine lv_iconst (v := 1) hx hb dL_law_166 (by decide +kernel) ?_
    refine lv_iadd hx hb dL_law_167 ?_
    refine lv_aload_n hx hb dL_law_168 rfl (lv_at hl 4 rfl) ?_
    refine lv_bipush (v := 18) hx hb dL_law_169 (by decide +kernel) ?_
    refine lv_iload hx hb dL_law_171 (lv_at hl 0 rfl) ?_
    refine lv_iadd hx hb dL_law_173 ?_
    refine W.eq (g2 := F0 m 174 ls [.int (nI (18 + p9)), .ref b, .int ((nI (700 + 1100 * p9 + v % 600)) + 1), .int (nI p9), .ref ta]) (by rw [show (18 : Int32) + nI p9 = nI (18 + p9) from nI_add 18 p9]) ?_
    refine law_told hC hL2 hS2 hl.1 (k := (18 + p9)) (by omega) (rest := [.int ((nI (700 + 1100 * p9 + v % 600)) + 1), .int (nI p9), .ref ta]) (by exact Nat.le_of_ble_eq_true rfl) (by omega) (by omega) dL_law_174 (fun u H3 locs3 hu hL23 hS23 => ?_)
    refine lv_sipush (v := 1024) hx hb dL_law_177 (by decide +kernel) ?_
    refine lv_idiv hx hb dL_law_180 (by decide +kernel) ?_
    refine lv_sipush (v := 200) hx hb dL_law_181 (by decide +kernel) ?_
    refine lv_irem hx hb dL_law_184 (by decide +kernel) ?_
    refine lv_iadd hx hb dL_law_185 ?_
    have eB : (nI (700 + 1100 * p9 + v % 600) + 1) + (nI u / 1024 - nI u / 1024 / 200 * 200) = nI ((700 + 1100 * p9 + v % 600) + 1 + u / 1024 % 200) := by
      rw [show nI u / 1024 = nI (u / 1024) from pk_div (d := 1024) hu (by omega) (by omega), show nI (u / 1024) - nI (u / 1024) / 200 * 200 = nI (u / 1024 % 200) from pk_rem (d := 200) (by omega) (by omega) (by omega), nI_1, nI_add]
    refine W.eq (g2 := F0 m 186 ls [.int (nI ((700 + 1100 * p9 + v % 600) + 1 + u / 1024 % 200)), .int (nI p9), .ref ta]) (by rw [eB]) ?_
    refine law_ast hC hL23.2.2.1 hL23.2.2.2.2.1 hS23 (show p9 < 4 by omega) dL_law_186 (fun H4 locs4 ha4 oq4 hS4 => ?_)
    have hL4 := hL23.setg ha4 oq4
    refine lv_aload_n hx hb dL_law_187 rfl (lv_at hl 3 rfl) ?_
    refine lv_aload_n hx hb dL_law_188 rfl (lv_at hl 2 rfl) ?_
    refine lv_iload hx hb dL_law_189 (lv_at hl 0 rfl) ?_
    refine law_ald hC hL4.2.1 (show p9 < 4 by omega) dL_law_191 ?_
    refine W.eq (g2 := F0 m 192 ls [.int (nI (700 + 1100 * p9 + v % 600)), .ref x0]) (by rw [if_pos rfl]) ?_
    refine lv_aload_n hx hb dL_law_192 rfl (lv_at hl 1 rfl) ?_
    refine lv_iload hx hb dL_law_193 (lv_at hl 0 rfl) ?_
    refine law_ald hC hL4.2.2.1 (show p9 < 4 by omega) dL_law_195 ?_
    refine W.eq (g2 := F0 m 196 ls [.int (nI ((700 + 1100 * p9 + v % 600) + 1 + u / 1024 % 200)), .int (nI (700 + 1100 * p9 + v % 600)), .ref x0]) (by rw [if_pos rfl]) ?_
    have q1 : ¬ nI (700 + 1100 * p9 + v % 600) < 0 := nI_pos (by omega)
    have q2 : nI (700 + 1100 * p9 + v % 600) ≤ 4999 := nI_le (a := (700 + 1100 * p9 + v % 600)) (b := 4999) (by omega) (by omega)
    have q3 : ¬ nI ((700 + 1100 * p9 + v % 600) + 1 + u / 1024 % 200) < nI (700 + 1100 * p9 + v % 600) + 1 := by
      rw [nI_1]
      exact nI_nlt (by omega) (by omega)
    have q4 : nI ((700 + 1100 * p9 + v % 600) + 1 + u / 1024 % 200) ≤ 5000 := nI_le (a := ((700 + 1100 * p9 + v % 600) + 1 + u / 1024 % 200)) (b := 5000) (by omega) (by omega)
    have x4 : ad 0 0 = x0 := hL4.2.2.2.2.2.2.2
    refine W.eq (g2 := F0 m 196 ls ((([.inr (.inl (0, 0)), .inl (nI (700 + 1100 * p9 + v % 600)), .inl (nI ((700 + 1100 * p9 + v % 600) + 1 + u / 1024 % 200))] : List VV).map (toV ad)).reverse ++ [])) (by rw [← x4]; rfl) ?_
    have hG4 : GU n 6 12 p9 0 (fun j => if j = p9 then (nI (700 + 1100 * p9 + v % 600)) else f j) (fun j => if j = p9 then (nI ((700 + 1100 * p9 + v % 600) + 1 + u / 1024 % 200)) else g j) t := ⟨hG.1, hG.2.1, fun z hz => by
      have := hG.2.2.1 z hz
      show t 15 z = (if z = p9 then _ else _) ∧ t 16 z = (if z = p9 then _ else _) ∧ _
      rw [if_neg (by omega), if_neg (by omega)]
      exact this, hG.2.2.2⟩
    refine law_E (as := [.inr (.inl (0, 0)), .inl (nI (700 + 1100 * p9 + v % 600)), .inl (nI ((700 + 1100 * p9 + v % 600) + 1 + u / 1024 % 200))]) (n := 2) hC (Rr := fun v9 t9 => v9 = some (.inl (nI p9)) ∧ t9 = zonS t p9 (nI (700 + 1100 * p9 + v % 600)) (nI ((700 + 1100 * p9 + v % 600) + 1 + u / 1024 % 200))) (c_X4_zone hst D X ad hG.1 (nI (700 + 1100 * p9 + v % 600)) (nI ((700 + 1100 * p9 + v % 600) + 1 + u / 1024 % 200)) (fun z => z.elim (fun q => q1 q) (fun q => q.2 q2)) (fun _ _ z => z.elim (fun q => q3 q) (fun q => q.2 q4)) (fun _ _ _ _ z => by omega) (fun _ _ _ _ _ => ⟨⟨_, ⟨rfl, rfl⟩, rfl⟩, rfl⟩)) ⟨(LT_in (by decide +kernel) (by decide +kernel) : Cond.methodLink R_law 62 yX4_zone ∈ LT), LT_in (by decide +kernel) (by decide +kernel), LT_in (by decide +kernel) (by decide +kernel), LT_in (by decide +kernel) (by decide +kernel), LT_in (by decide +kernel) (by decide +kernel)⟩ (by decide +kernel) ⟨Nat.le_of_ble_eq_true rfl, Nat.le_of_ble_eq_true rfl⟩ rfl rfl rfl rfl rfl hL4 hS4 hl.1 (rest := []) (by exact Nat.le_of_ble_eq_true rfl) (by omega) (by omega) dL_law_196 (fun v9 t9 ad5 H5 locs5 hR5 hL5 hS5 => ?_)
    obtain ⟨rfl, rfl⟩ := hR5
    refine W.eq (g2 := F0 m 199 ls [.int (nI p9)]) rfl ?_
    refine lv_pop hx hb dL_law_199 rfl ?_
    refine lv_iinc (k := 0) (lv' := [(4, .int (nI (p9 + 1))), (3, .ref ta), (2, .ref fa), (1, .ref x0), (0, .ref b)]) hx hb dL_law_200 hl rfl (nI_1 p9) (by decide) rfl (fun ls1 hl1 => ?_)
    refine lv_goto hx hb dL_law_203 (tgt := 125) (by decide) ?_
    exact ih (p9 + 1) (by omega) _ _ _ _ _ _ _ _ _ _ (hG4.zon (show p9 < 4 by omega) (by rw [i_n (by omega)]; omega) (by rw [i_n (by omega), i_n (by omega)]; omega) (by rw [i_n (by omega)]; omega) (if_pos rfl) (if_pos rfl)) hL5 hS5 hl1 (by omega) (by omega) (by omega)
set_option maxHeartbeats 4000000 in
theorem law_l4 (hC : LC p l s m c D X b L xs) (kend : ∀ (n : Nat) (t : TT) (ad : Nat → Nat → Nat) (H : Heap) (locs : List Loc) (ls : Array Slot) (cl sl : Nat) (f g : Nat → Int32), GU n 6 12 4 5 f g t → LSt D X ad (AL s) 6 12 4 5 t fa ta f g x0 H → va_S (AL s) s.heap H locs → lv_has ls 10 [(5, .int (nI 5)), (4, .int 1), (3, .ref ta), (2, .ref fa), (1, .ref x0), (0, .ref b)] → n ≤ 22 + 5 → cl ≤ 50 + 5 * 3 → sl ≤ 200 + 5 * 2018 → W p l e room_1 s m #[Value.ref b] below meth c H locs cl sl Q (F0 m 269 ls [])) : ∀ q p9, p9 + q = 5 → ∀ (n : Nat) (t : TT) (ad : Nat → Nat → Nat) (H : Heap) (locs : List Loc) (ls : Array Slot) (cl sl : Nat) (f g : Nat → Int32), GU n 6 12 4 p9 f g t → LSt D X ad (AL s) 6 12 4 p9 t fa ta f g x0 H → va_S (AL s) s.heap H locs → lv_has ls 10 [(5, .int (nI p9)), (4, .int 1), (3, .ref ta), (2, .ref fa), (1, .ref x0), (0, .ref b)] → n ≤ 22 + p9 → cl ≤ 50 + p9 * 3 → sl ≤ 200 + p9 * 2018 → W p l e room_1 s m #[Value.ref b] below meth c H locs cl sl Q (F0 m 212 ls []) := by
  intro q
  induction q with
  | zero =>
    intro p9 hp n t ad H locs ls cl sl f g hG hL hS hl hn hc hs
    have : p9 = 5 := by omega
    subst this
    obtain ⟨hx, hb, hml, hts, hown, hK, hE, hX, hbl, hL9, hst⟩ := id hC
    refine lv_iload hx hb dL_law_212 (lv_at hl 0 rfl) ?_
    refine lv_iconst (v := 5) hx hb dL_law_214 (by decide +kernel) ?_
    refine lv_icmp_ge hx hb dL_law_215 (tgt := 269) (by decide) (fun _ => ?_) (fun z => absurd (nI_le (a := 5) (b := 5) (by omega) (by omega)) z)
    exact kend n t ad H locs ls cl sl f g hG hL hS hl hn hc hs
  | succ q ih =>
    intro p9 hp n t ad H locs ls cl sl f g hG hL hS hl hn hc hs
    obtain ⟨hx, hb, hml, hts, hown, hK, hE, hX, hbl, hL9, hst⟩ := id hC
    refine lv_iload hx hb dL_law_212 (lv_at hl 0 rfl) ?_
    refine lv_iconst (v := 5) hx hb dL_law_214 (by decide +kernel) ?_
    refine lv_icmp_ge hx hb dL_law_215 (tgt := 269) (by decide) (fun z => absurd z (nI_ge (a := p9) (b := 5) (by omega) (by omega))) (fun _ => ?_)
    refine lv_iload hx hb dL_law_218 (lv_at hl 1 rfl) ?_
    refine lv_if_eq hx hb dL_law_220 (tgt := 260) (by decide) (fun z => absurd z (by decide +kernel)) (fun _ => ?_)
    refine lv_aload_n hx hb dL_law_223 rfl (lv_at hl 4 rfl) ?_
    refine lv_sipush (v := 4300) hx hb dL_law_224 (by decide +kernel) ?_
    refine lv_sipush (v := 1000) hx hb dL_law_227 (by decide +kernel) ?_
    refine lv_iload hx hb dL_law_230 (lv_at hl 0 rfl) ?_
    refine lv_imul hx hb dL_law_232 ?_
    refine lv_isub hx hb dL_law_233 ?_
    refine lv_aload_n hx hb dL_law_234 rfl (lv_at hl 5 rfl) ?_
    refine lv_bipush (v := 22) hx hb dL_law_235 (by decide +kernel) ?_
    refine lv_iload hx hb dL_law_237 (lv_at hl 0 rfl) ?_
    refine lv_iadd hx hb dL_law_239 ?_
    refine W.eq (g2 := F0 m 240 ls [.int (nI (22 + p9)), .ref b, .int (4300 - (1000 * (nI p9))), .ref x0]) (by rw [show (22 : Int32) + nI p9 = nI (22 + p9) from nI_add 22 p9]) ?_
    refine law_told hC hL hS hl.1 (k := (22 + p9)) (by omega) (rest := [.int (4300 - (1000 * (nI p9))), .ref x0]) (by exact Nat.le_of_ble_eq_true rfl) (by omega) (by omega) dL_law_240 (fun v H1 locs1 hv hL1 hS1 => ?_)
    refine lv_sipush (v := 500) hx hb dL_law_243 (by decide +kernel) ?_
    refine lv_irem hx hb dL_law_246 (by decide +kernel) ?_
    refine lv_iadd hx hb dL_law_247 ?_
    have eA : ((4300 : Int32) - 1000 * nI p9) + (nI v - nI v / 500 * 500) = nI (4300 - 1000 * p9 + v % 500) := by
      rw [show nI v - nI v / 500 * 500 = nI (v % 500) from pk_rem (d := 500) hv (by omega) (by omega)]
      show (nI 4300 - nI 1000 * nI p9) + nI (v % 500) = _
      rw [pk_mul, pk_sub (by omega), nI_add]
    have q1 : ¬ nI (4300 - 1000 * p9 + v % 500) < 100 := nI_nlt (a := (4300 - 1000 * p9 + v % 500)) (b := 100) (by omega) (by omega)
    have q2 : nI (4300 - 1000 * p9 + v % 500) ≤ 5000 := nI_le (a := (4300 - 1000 * p9 + v % 500)) (b := 5000) (by omega) (by omega)
    have q3 := hG.can (a := (nI (4300 - 1000 * p9 + v % 500))) (m := (4300 - 1000 * p9 + v % 500)) rfl (by omega) (by omega)
    refine W.eq (g2 := F0 m 248 ls ((([.inr (.inl (0, 0)), .inl (nI (4300 - 1000 * p9 + v % 500))] : List VV).map (toV ad)).reverse ++ [])) (by rw [eA, ← hL.2.2.2.2.2.2.2]; rfl) ?_
    refine law_E (as := [.inr (.inl (0, 0)), .inl (nI (4300 - 1000 * p9 + v % 500))]) (n := 1) hC (Rr := fun v9 t9 => v9 = some (.inl (nI p9)) ∧ t9 = dealR (traS t p9 0 (nI (4300 - 1000 * p9 + v % 500))) (p9 + 1) 4 (p9 + 1)) (c_X4_train hst D X ad hG.1 (nI (4300 - 1000 * p9 + v % 500)) (fun z => z.elim (fun q => q1 q) (fun q => q.2 q2)) (fun _ _ z => z.elim (fun q => by omega) (fun q => by rw [q3] at q; cases q.2)) (fun _ _ _ _ => ⟨⟨_, ⟨rfl, rfl⟩, rfl⟩, rfl⟩)) ⟨(LT_in (by decide +kernel) (by decide +kernel) : Cond.methodLink R_law 65 yX4_train ∈ LT), LT_in (by decide +kernel) (by decide +kernel), LT_in (by decide +kernel) (by decide +kernel), LT_in (by decide +kernel) (by decide +kernel), LT_in (by decide +kernel) (by decide +kernel)⟩ (by decide +kernel) ⟨Nat.le_of_ble_eq_true rfl, Nat.le_of_ble_eq_true rfl⟩ rfl rfl rfl rfl rfl hL1 hS1 hl.1 (rest := []) (by exact Nat.le_of_ble_eq_true rfl) (by omega) (by omega) dL_law_248 (fun v9 t9 ad2 H2 locs2 hR2 hL2 hS2 => ?_)
    obtain ⟨rfl, rfl⟩ := hR2
    refine W.eq (g2 := F0 m 251 ls [.int (nI p9)]) rfl ?_
    refine lv_iload hx hb dL_law_251 (lv_at hl 0 rfl) ?_
    refine lv_icmp_ne hx hb dL_law_253 (tgt := 260) (by decide) (fun z => absurd rfl z) (fun _ => ?_)
    refine lv_iconst (v := 1) hx hb dL_law_256 (by decide +kernel) ?_
    refine lv_goto hx hb dL_law_257 (tgt := 261) (by decide) ?_
    refine lv_istore (lv' := [(4, .int 1), (5, .int (nI p9)), (3, .ref ta), (2, .ref fa), (1, .ref x0), (0, .ref b)]) hx hb dL_law_261 hl (by decide) rfl (fun ls1 hl1 => ?_)
    refine lv_iinc (k := 1) (lv' := [(5, .int (nI (p9 + 1))), (4, .int 1), (3, .ref ta), (2, .ref fa), (1, .ref x0), (0, .ref b)]) hx hb dL_law_263 hl1 rfl (nI_1 p9) (by decide) rfl (fun ls2 hl2 => ?_)
    refine lv_goto hx hb dL_law_266 (tgt := 212) (by decide) ?_
    exact ih (p9 + 1) (by omega) _ _ _ _ _ _ _ _ _ _ (hG.tra (a := (nI (4300 - 1000 * p9 + v % 500))) (m := (4300 - 1000 * p9 + v % 500)) (show p9 < 5 by omega) rfl (by omega) (by omega) (by omega)) hL2 hS2 hl2 (by omega) (by omega) (by omega)
end LW53
