set_option maxHeartbeats 4000000 in
set_option maxRecDepth 100000 in
theorem qX7_pack (l : Launch) (D : va_G) (cI cL : ClassId) (th : Nat) (ad : Nat → Nat) (c_told : Int32) (c_sumZ : Int32) (c_sumE : Int32) (c_stepY : Int32) (c_odd : Int32) (c_even : Int32) (c_taped : Int32) (c_outs : Int32) (c_isFound : Int32) (f_kinds : Nat → Int32) (f_g : Nat → Int32) (f_bounds2 : Nat → Int32) (f_bounds3 : Nat → Int32) (f_bounds4 : Nat → Int32) (f_bounds5 : Nat → Int32) (f_table2 : Nat → Int32) (f_table3 : Nat → Int32) (f_table4 : Nat → Int32) (f_table5 : Nat → Int32) (f_weight2 : Nat → Int32) (f_weight3 : Nat → Int32) (f_weight4 : Nat → Int32) (f_weight5 : Nat → Int32) (f_pace2 : Nat → Int32) (f_pace3 : Nat → Int32) (f_pace4 : Nat → Int32) (f_pace5 : Nat → Int32) (f_bands : Nat → Int32) (f_sieve : Nat → Int32) (f_coefficients : Nat → Int32) (f_steps : Nat → Int32) (f_roots : Nat → Int32) (f_ups : Nat → Int32) (f_highs : Nat → Int32) (f_lowWeights : Nat → Int32) (f_highWeights : Nat → Int32) (f_tape : Nat → Int32) (f_out : Nat → Int32) (a1 : Int32) (a2 : Int32) (res : Int32 × Int32 × Int32 × Int32 × Int32 × Int32 × Int32 × Int32 × Int32 × (Nat → Int32) × (Nat → Int32) × (Nat → Int32) × (Nat → Int32)) (hf : fX7_pack a1 a2 f_kinds f_bounds2 f_bounds3 f_bounds4 f_bounds5 f_table2 f_table3 f_table4 f_table5 f_weight2 f_weight3 f_weight4 f_weight5 f_pace2 f_pace3 f_pace4 f_pace5 f_coefficients f_steps f_roots f_ups f_highs f_lowWeights f_highWeights f_tape c_told c_sumZ c_sumE c_stepY c_odd c_even c_taped c_outs f_g f_bands f_sieve f_out = some res) : pq_CI l yX7_pack qsX7_pack 5 139 D cI cL [.ref th, .int a1, .int a2] (wX7_pack cI th ad c_told c_sumZ c_sumE c_stepY c_odd c_even c_taped c_outs c_isFound f_kinds f_g f_bounds2 f_bounds3 f_bounds4 f_bounds5 f_table2 f_table3 f_table4 f_table5 f_weight2 f_weight3 f_weight4 f_weight5 f_pace2 f_pace3 f_pace4 f_pace5 f_bands f_sieve f_coefficients f_steps f_roots f_ups f_highs f_lowWeights f_highWeights f_tape f_out) (wX7_pack cI th ad res.2.1 res.2.2.1 res.2.2.2.1 res.2.2.2.2.1 res.2.2.2.2.2.1 res.2.2.2.2.2.2.1 res.2.2.2.2.2.2.2.1 res.2.2.2.2.2.2.2.2.1 c_isFound f_kinds res.2.2.2.2.2.2.2.2.2.1 f_bounds2 f_bounds3 f_bounds4 f_bounds5 f_table2 f_table3 f_table4 f_table5 f_weight2 f_weight3 f_weight4 f_weight5 f_pace2 f_pace3 f_pace4 f_pace5 res.2.2.2.2.2.2.2.2.2.2.1 res.2.2.2.2.2.2.2.2.2.2.2.1 f_coefficients f_steps f_roots f_ups f_highs f_lowWeights f_highWeights f_tape res.2.2.2.2.2.2.2.2.2.2.2.2) res.1 := by
  refine pq_mkI (cc := cX7_pack) (maxL := 9) (RT := .int) (by decide) rfl (Nat.le_of_ble_eq_true rfl) ?_
  intro p e s m args below meth c Q A C hh hret ls hl
  have hx := C.1
  have hb := C.2.1
  have hml := C.2.2.1
  have hown : s.vm.findClass RX7 = some m.cls := C.2.2.2.1
  have hs : ∀ w ∈ wsL_law, w ∈ qsX7_pack := fun _ h => List.mem_cons_of_mem _ h
  have htw : ∀ w ∈ wsL_law, w.before args s = true := fun w h => C.2.2.2.2.1 w (hs w h)
  have hl : lv_has ls 9 [(0, .ref th), (1, .int a1), (2, .int a2)] := hl
  have i7 : ∀ w ∈ wsX70, w ∈ qsX7_pack := fun w h => hs w (pq_i7 w h)
  have kc9 := htw (.constant RX7 9 (-100000)) (pq_m3 _ (List.mem_of_getElem? (i := 20) rfl))
  have kf105 := htw (.fieldLink RX7 105 "VoiceDeskModel" "out" "[I") (pq_m5 _ (List.mem_of_getElem? (i := 5) rfl))
  have kf114 := htw (.fieldLink RX7 114 "VoiceDeskModel" "told" "I") (pq_m6 _ (List.mem_of_getElem? (i := 17) rfl))
  have kf254 := htw (.fieldLink RX7 254 "VoiceDeskModel" "taped" "I") (pq_m26 _ (List.mem_of_getElem? (i := 7) rfl))
  have kf260 := htw (.fieldLink RX7 260 "VoiceDeskModel" "outs" "I") (pq_m27 _ (List.mem_of_getElem? (i := 8) rfl))
  have J101 : ∀ (fuel101 : Nat) (x1 : Int32) (x2 : Int32) (x3 : Int32) (x4 : Int32) (x5 : Int32) (x6 : Int32) (c_told : Int32) (c_sumZ : Int32) (c_sumE : Int32) (c_stepY : Int32) (c_odd : Int32) (c_even : Int32) (c_taped : Int32) (c_outs : Int32) (f_g : Nat → Int32) (f_bands : Nat → Int32) (f_sieve : Nat → Int32) (f_out : Nat → Int32) (H : Heap) (locs : List Loc), pq_H D A s (wX7_pack cI th ad c_told c_sumZ c_sumE c_stepY c_odd c_even c_taped c_outs c_isFound f_kinds f_g f_bounds2 f_bounds3 f_bounds4 f_bounds5 f_table2 f_table3 f_table4 f_table5 f_weight2 f_weight3 f_weight4 f_weight5 f_pace2 f_pace3 f_pace4 f_pace5 f_bands f_sieve f_coefficients f_steps f_roots f_ups f_highs f_lowWeights f_highWeights f_tape f_out) H locs → ∀ ls : Array Slot, lv_has ls 9 [(0, .ref th), (1, .int x1), (2, .int x2), (3, .int x3), (4, .int x4), (5, .int x5), (6, .int x6)] → fX7_pack_b101  f_kinds f_bounds2 f_bounds3 f_bounds4 f_bounds5 f_table2 f_table3 f_table4 f_table5 f_weight2 f_weight3 f_weight4 f_weight5 f_pace2 f_pace3 f_pace4 f_pace5 f_coefficients f_steps f_roots f_ups f_highs f_lowWeights f_highWeights f_tape fuel101 x1 x2 x3 x4 x5 x6 c_told c_sumZ c_sumE c_stepY c_odd c_even c_taped c_outs f_g f_bands f_sieve f_out = some res → W p l e (pq_rm 5 139) s m args below meth c H locs 0 0 Q (F0 m 101 ls []) := by
    intro fuel101
    induction fuel101 with
    | zero => intro x1 x2 x3 x4 x5 x6 c_told c_sumZ c_sumE c_stepY c_odd c_even c_taped c_outs f_g f_bands f_sieve f_out H locs hh ls hl hf; rw [fX7_pack_b101] at hf; cases hf
    | succ fuel101 ih101 =>
      have J159 : ∀ (fuel159 : Nat) (x1 : Int32) (x2 : Int32) (x3 : Int32) (x4 : Int32) (x5 : Int32) (x6 : Int32) (x7 : Int32) (x8 : Int32) (c_told : Int32) (c_sumZ : Int32) (c_sumE : Int32) (c_stepY : Int32) (c_odd : Int32) (c_even : Int32) (c_taped : Int32) (c_outs : Int32) (f_g : Nat → Int32) (f_bands : Nat → Int32) (f_sieve : Nat → Int32) (f_out : Nat → Int32) (H : Heap) (locs : List Loc), pq_H D A s (wX7_pack cI th ad c_told c_sumZ c_sumE c_stepY c_odd c_even c_taped c_outs c_isFound f_kinds f_g f_bounds2 f_bounds3 f_bounds4 f_bounds5 f_table2 f_table3 f_table4 f_table5 f_weight2 f_weight3 f_weight4 f_weight5 f_pace2 f_pace3 f_pace4 f_pace5 f_bands f_sieve f_coefficients f_steps f_roots f_ups f_highs f_lowWeights f_highWeights f_tape f_out) H locs → ∀ ls : Array Slot, lv_has ls 9 [(0, .ref th), (1, .int x1), (2, .int x2), (3, .int x3), (4, .int x4), (5, .int x5), (6, .int x6), (7, .int x7), (8, .int x8)] → fX7_pack_b159 (fX7_pack_b101  f_kinds f_bounds2 f_bounds3 f_bounds4 f_bounds5 f_table2 f_table3 f_table4 f_table5 f_weight2 f_weight3 f_weight4 f_weight5 f_pace2 f_pace3 f_pace4 f_pace5 f_coefficients f_steps f_roots f_ups f_highs f_lowWeights f_highWeights f_tape fuel101) f_kinds f_bounds2 f_bounds3 f_bounds4 f_bounds5 f_table2 f_table3 f_table4 f_table5 f_weight2 f_weight3 f_weight4 f_weight5 f_pace2 f_pace3 f_pace4 f_pace5 f_coefficients f_steps f_roots f_ups f_highs f_lowWeights f_highWeights f_tape fuel159 x1 x2 x3 x4 x5 x6 x7 x8 c_told c_sumZ c_sumE c_stepY c_odd c_even c_taped c_outs f_g f_bands f_sieve f_out = some res → W p l e (pq_rm 5 139) s m args below meth c H locs 0 0 Q (F0 m 159 ls []) := by
        intro fuel159
        induction fuel159 with
        | zero => intro x1 x2 x3 x4 x5 x6 x7 x8 c_told c_sumZ c_sumE c_stepY c_odd c_even c_taped c_outs f_g f_bands f_sieve f_out H locs hh ls hl hf; rw [fX7_pack_b159] at hf; cases hf
        | succ fuel159 ih159 =>
          have J197 : ∀ (x1 : Int32) (x2 : Int32) (x3 : Int32) (x4 : Int32) (x5 : Int32) (x6 : Int32) (x7 : Int32) (x8 : Int32) (s1 : Int32) (s2 : Int32) (c_told : Int32) (c_sumZ : Int32) (c_sumE : Int32) (c_stepY : Int32) (c_odd : Int32) (c_even : Int32) (c_taped : Int32) (c_outs : Int32) (f_g : Nat → Int32) (f_bands : Nat → Int32) (f_sieve : Nat → Int32) (f_out : Nat → Int32) (H : Heap) (locs : List Loc), pq_H D A s (wX7_pack cI th ad c_told c_sumZ c_sumE c_stepY c_odd c_even c_taped c_outs c_isFound f_kinds f_g f_bounds2 f_bounds3 f_bounds4 f_bounds5 f_table2 f_table3 f_table4 f_table5 f_weight2 f_weight3 f_weight4 f_weight5 f_pace2 f_pace3 f_pace4 f_pace5 f_bands f_sieve f_coefficients f_steps f_roots f_ups f_highs f_lowWeights f_highWeights f_tape f_out) H locs → ∀ ls : Array Slot, lv_has ls 9 [(0, .ref th), (1, .int x1), (2, .int x2), (3, .int x3), (4, .int x4), (5, .int x5), (6, .int x6), (7, .int x7), (8, .int x8)] → fX7_pack_b197 (fX7_pack_b101  f_kinds f_bounds2 f_bounds3 f_bounds4 f_bounds5 f_table2 f_table3 f_table4 f_table5 f_weight2 f_weight3 f_weight4 f_weight5 f_pace2 f_pace3 f_pace4 f_pace5 f_coefficients f_steps f_roots f_ups f_highs f_lowWeights f_highWeights f_tape fuel101) (fX7_pack_b159 (fX7_pack_b101  f_kinds f_bounds2 f_bounds3 f_bounds4 f_bounds5 f_table2 f_table3 f_table4 f_table5 f_weight2 f_weight3 f_weight4 f_weight5 f_pace2 f_pace3 f_pace4 f_pace5 f_coefficients f_steps f_roots f_ups f_highs f_lowWeights f_highWeights f_tape fuel101) f_kinds f_bounds2 f_bounds3 f_bounds4 f_bounds5 f_table2 f_table3 f_table4 f_table5 f_weight2 f_weight3 f_weight4 f_weight5 f_pace2 f_pace3 f_pace4 f_pace5 f_coefficients f_steps f_roots f_ups f_highs f_lowWeights f_highWeights f_tape fuel159) f_kinds f_bounds2 f_bounds3 f_bounds4 f_bounds5 f_table2 f_table3 f_table4 f_table5 f_weight2 f_weight3 f_weight4 f_weight5 f_pace2 f_pace3 f_pace4 f_pace5 f_coefficients f_steps f_roots f_ups f_highs f_lowWeights f_highWeights f_tape x1 x2 x3 x4 x5 x6 x7 x8 s1 s2 c_told c_sumZ c_sumE c_stepY c_odd c_even c_taped c_outs f_g f_bands f_sieve f_out = some res → W p l e (pq_rm 5 139) s m args below meth c H locs 0 0 Q (F0 m 197 ls [.int s2, .int s1, .ref th]) := by
            intro x1 x2 x3 x4 x5 x6 x7 x8 s1 s2 c_told c_sumZ c_sumE c_stepY c_odd c_even c_taped c_outs f_g f_bands f_sieve f_out H locs hh ls hl hf
            rw [fX7_pack_b197] at hf
            refine lv_iconst (v := (1 : Int32)) hx hb dX7_pack_197 (by decide) ?_
            refine lv_iand hx hb dX7_pack_198 ?_
            refine lv_iload_n hx hb dX7_pack_199 rfl (lv_at hl 2 rfl) ?_
            obtain ⟨f49, hu50, hf⟩ := pq_clx hf
            refine pq_cvV (n := 3) (As := [.int s1, .int (s2 &&& (1 : Int32)), .int x2]) C hh (qX7_bit l D cI cL th ad c_told c_sumZ c_sumE c_stepY c_odd c_even c_taped c_outs c_isFound f_out s1 (s2 &&& (1 : Int32)) x2 f49 hu50) (gvX7_bit hs (pq_m29 _ (List.mem_of_getElem? (i := 10) rfl))) rfl (by decide +kernel) ⟨Nat.le_of_ble_eq_true rfl, Nat.le_of_ble_eq_true rfl⟩ 0 6 rfl rfl rfl hl.1 rfl rfl (Nat.le_of_ble_eq_true rfl) dX7_pack_200 ⟨Nat.zero_le _, Nat.zero_le _⟩ [0, 29] [1, 2, 3, 4, 5, 6, 7, 8, 9, 10, 11, 12, 13, 14, 15, 16, 17, 18, 19, 20, 21, 22, 23, 24, 25, 26, 27, 28] [28, 0, 1, 2, 3, 4, 5, 6, 7, 8, 9, 10, 11, 12, 13, 14, 15, 16, 17, 18, 19, 20, 21, 22, 23, 24, 25, 26, 27, 29] rfl rfl (by decide) (by decide) (by decide) rfl (fun H locs (hh : pq_H D A s (wX7_pack cI th ad c_told c_sumZ c_sumE c_stepY c_odd c_even c_taped c_outs c_isFound f_kinds f_g f_bounds2 f_bounds3 f_bounds4 f_bounds5 f_table2 f_table3 f_table4 f_table5 f_weight2 f_weight3 f_weight4 f_weight5 f_pace2 f_pace3 f_pace4 f_pace5 f_bands f_sieve f_coefficients f_steps f_roots f_ups f_highs f_lowWeights f_highWeights f_tape f49) H locs) => ?_)
            obtain ⟨v51, e52⟩ : ∃ y : Int32, y = x8 + (1 : Int32) := ⟨_, rfl⟩
            refine lv_iinc (v := v51) (lv' := [(8, .int v51), (0, .ref th), (1, .int x1), (2, .int x2), (3, .int x3), (4, .int x4), (5, .int x5), (6, .int x6), (7, .int x7)]) hx hb dX7_pack_203 hl (k := 8) rfl (by rw [e52]; rfl) (by decide) rfl (fun ls hl => ?_)
            have hf := pq_nmx hf v51 e52
            refine lv_goto (tgt := 159) hx hb dX7_pack_206 (by decide) ?_
            exact ih159 x1 x2 x3 x4 x5 x6 x7 v51 c_told c_sumZ c_sumE c_stepY c_odd c_even c_taped c_outs f_g f_bands f_sieve f49 _ _ hh ls (lv_sub hl [1, 2, 3, 4, 5, 6, 7, 8, 0] rfl) hf
          intro x1 x2 x3 x4 x5 x6 x7 x8 c_told c_sumZ c_sumE c_stepY c_odd c_even c_taped c_outs f_g f_bands f_sieve f_out H locs hh ls hl hf
          rw [fX7_pack_b159] at hf
          refine lv_iload hx hb dX7_pack_159 (lv_at hl 8 rfl) ?_
          refine lv_iload hx hb dX7_pack_161 (lv_at hl 5 rfl) ?_
          refine lv_icmp_ge (tgt := 209) hx hb dX7_pack_163 (by decide) (fun h45 => ?_) (fun h45 => ?_)
          · have hf := pq_brt hf h45
            obtain ⟨v46, e47⟩ : ∃ y : Int32, y = x6 + (1 : Int32) := ⟨_, rfl⟩
            refine lv_iinc (v := v46) (lv' := [(6, .int v46), (0, .ref th), (1, .int x1), (2, .int x2), (3, .int x3), (4, .int x4), (5, .int x5), (7, .int x7), (8, .int x8)]) hx hb dX7_pack_209 hl (k := 6) rfl (by rw [e47]; rfl) (by decide) rfl (fun ls hl => ?_)
            have hf := pq_nmx hf v46 e47
            refine lv_goto (tgt := 101) hx hb dX7_pack_212 (by decide) ?_
            exact ih101 x1 x2 x3 x4 x5 v46 c_told c_sumZ c_sumE c_stepY c_odd c_even c_taped c_outs f_g f_bands f_sieve f_out _ _ hh ls (lv_sub hl [1, 2, 3, 4, 5, 6, 0] rfl) hf
          · have hf := pq_brf hf h45
            refine lv_aload_n hx hb dX7_pack_166 rfl (lv_at hl 0 rfl) ?_
            refine lv_iload hx hb dX7_pack_167 (lv_at hl 5 rfl) ?_
            refine lv_iload hx hb dX7_pack_169 (lv_at hl 6 rfl) ?_
            refine lv_imul hx hb dX7_pack_171 ?_
            refine lv_iload hx hb dX7_pack_172 (lv_at hl 8 rfl) ?_
            refine lv_iadd hx hb dX7_pack_174 ?_
            refine lv_iload_n hx hb dX7_pack_175 rfl (lv_at hl 2 rfl) ?_
            refine lv_if_eq (tgt := 192) hx hb dX7_pack_176 (by decide) (fun h48 => ?_) (fun h48 => ?_)
            · have hf := pq_brt hf h48
              refine lv_iload hx hb dX7_pack_192 (lv_at hl 7 rfl) ?_
              refine lv_iload hx hb dX7_pack_194 (lv_at hl 8 rfl) ?_
              refine lv_ishr hx hb dX7_pack_196 ?_
              exact J197 x1 x2 x3 x4 x5 x6 x7 x8 ((x5 * x6) + x8) (x7 >>> (x8 &&& 31)) c_told c_sumZ c_sumE c_stepY c_odd c_even c_taped c_outs f_g f_bands f_sieve f_out _ _ hh ls (lv_sub hl [0, 1, 2, 3, 4, 5, 6, 7, 8] rfl) hf
            · have hf := pq_brf hf h48
              refine lv_iload hx hb dX7_pack_179 (lv_at hl 7 rfl) ?_
              refine lv_iload hx hb dX7_pack_181 (lv_at hl 5 rfl) ?_
              refine lv_iconst (v := (1 : Int32)) hx hb dX7_pack_183 (by decide) ?_
              refine lv_isub hx hb dX7_pack_184 ?_
              refine lv_iload hx hb dX7_pack_185 (lv_at hl 8 rfl) ?_
              refine lv_isub hx hb dX7_pack_187 ?_
              refine lv_ishr hx hb dX7_pack_188 ?_
              refine lv_goto (tgt := 197) hx hb dX7_pack_189 (by decide) ?_
              exact J197 x1 x2 x3 x4 x5 x6 x7 x8 ((x5 * x6) + x8) (x7 >>> (((x5 - (1 : Int32)) - x8) &&& 31)) c_told c_sumZ c_sumE c_stepY c_odd c_even c_taped c_outs f_g f_bands f_sieve f_out _ _ hh ls (lv_sub hl [0, 1, 2, 3, 4, 5, 6, 7, 8] rfl) hf
      have J154 : ∀ (x1 : Int32) (x2 : Int32) (x3 : Int32) (x4 : Int32) (x5 : Int32) (x6 : Int32) (s0 : Int32) (c_told : Int32) (c_sumZ : Int32) (c_sumE : Int32) (c_stepY : Int32) (c_odd : Int32) (c_even : Int32) (c_taped : Int32) (c_outs : Int32) (f_g : Nat → Int32) (f_bands : Nat → Int32) (f_sieve : Nat → Int32) (f_out : Nat → Int32) (H : Heap) (locs : List Loc), pq_H D A s (wX7_pack cI th ad c_told c_sumZ c_sumE c_stepY c_odd c_even c_taped c_outs c_isFound f_kinds f_g f_bounds2 f_bounds3 f_bounds4 f_bounds5 f_table2 f_table3 f_table4 f_table5 f_weight2 f_weight3 f_weight4 f_weight5 f_pace2 f_pace3 f_pace4 f_pace5 f_bands f_sieve f_coefficients f_steps f_roots f_ups f_highs f_lowWeights f_highWeights f_tape f_out) H locs → ∀ ls : Array Slot, lv_has ls 9 [(0, .ref th), (1, .int x1), (2, .int x2), (3, .int x3), (4, .int x4), (5, .int x5), (6, .int x6)] → fX7_pack_b154 (fX7_pack_b101  f_kinds f_bounds2 f_bounds3 f_bounds4 f_bounds5 f_table2 f_table3 f_table4 f_table5 f_weight2 f_weight3 f_weight4 f_weight5 f_pace2 f_pace3 f_pace4 f_pace5 f_coefficients f_steps f_roots f_ups f_highs f_lowWeights f_highWeights f_tape fuel101) f_kinds f_bounds2 f_bounds3 f_bounds4 f_bounds5 f_table2 f_table3 f_table4 f_table5 f_weight2 f_weight3 f_weight4 f_weight5 f_pace2 f_pace3 f_pace4 f_pace5 f_coefficients f_steps f_roots f_ups f_highs f_lowWeights f_highWeights f_tape x1 x2 x3 x4 x5 x6 s0 c_told c_sumZ c_sumE c_stepY c_odd c_even c_taped c_outs f_g f_bands f_sieve f_out = some res → W p l e (pq_rm 5 139) s m args below meth c H locs 0 0 Q (F0 m 154 ls [.int s0]) := by
        intro x1 x2 x3 x4 x5 x6 s0 c_told c_sumZ c_sumE c_stepY c_odd c_even c_taped c_outs f_g f_bands f_sieve f_out H locs hh ls hl hf
        rw [fX7_pack_b154] at hf
        refine lv_istore (lv' := [(7, .int s0), (0, .ref th), (1, .int x1), (2, .int x2), (3, .int x3), (4, .int x4), (5, .int x5), (6, .int x6)]) hx hb dX7_pack_154 hl (by decide) rfl (fun ls hl => ?_)
        refine lv_iconst (v := (0 : Int32)) hx hb dX7_pack_156 (by decide) ?_
        refine lv_istore (lv' := [(8, .int (0 : Int32)), (7, .int s0), (0, .ref th), (1, .int x1), (2, .int x2), (3, .int x3), (4, .int x4), (5, .int x5), (6, .int x6)]) hx hb dX7_pack_157 hl (by decide) rfl (fun ls hl => ?_)
        exact J159 1100 x1 x2 x3 x4 x5 x6 s0 (0 : Int32) c_told c_sumZ c_sumE c_stepY c_odd c_even c_taped c_outs f_g f_bands f_sieve f_out _ _ hh ls (lv_sub hl [2, 3, 4, 5, 6, 7, 8, 1, 0] rfl) hf
      intro x1 x2 x3 x4 x5 x6 c_told c_sumZ c_sumE c_stepY c_odd c_even c_taped c_outs f_g f_bands f_sieve f_out H locs hh ls hl hf
      rw [fX7_pack_b101] at hf
      refine lv_iload hx hb dX7_pack_101 (lv_at hl 6 rfl) ?_
      refine lv_iload hx hb dX7_pack_103 (lv_at hl 4 rfl) ?_
      refine lv_icmp_ge (tgt := 215) hx hb dX7_pack_105 (by decide) (fun h23 => ?_) (fun h23 => ?_)
      · have hf := pq_brt hf h23
        refine lv_aload_n hx hb dX7_pack_215 rfl (lv_at hl 0 rfl) ?_
        refine lv_iconst (v := (0 : Int32)) hx hb dX7_pack_216 (by decide) ?_
        refine pq_put (ty := .int) (v := .int (0 : Int32)) C hh i7 tyX7 tyX7_ok nmX7 0 6 rfl rfl 37 (by decide) kf254 rfl rfl (by decide +kernel) rfl rfl (Nat.le_of_ble_eq_true rfl) dX7_pack_217 (fun H locs (hh : pq_H D A s (wX7_pack cI th ad c_told c_sumZ c_sumE c_stepY c_odd c_even (0 : Int32) c_outs c_isFound f_kinds f_g f_bounds2 f_bounds3 f_bounds4 f_bounds5 f_table2 f_table3 f_table4 f_table5 f_weight2 f_weight3 f_weight4 f_weight5 f_pace2 f_pace3 f_pace4 f_pace5 f_bands f_sieve f_coefficients f_steps f_roots f_ups f_highs f_lowWeights f_highWeights f_tape f_out) H locs) => ?_)
        refine lv_iload hx hb dX7_pack_220 (lv_at hl 4 rfl) ?_
        obtain rfl := Option.some.inj hf
        exact hret _ _ _ ls hh dX7_pack_222 rfl
      · have hf := pq_brf hf h23
        refine lv_iload_n hx hb dX7_pack_108 rfl (lv_at hl 3 rfl) ?_
        refine lv_iconst (v := (4 : Int32)) hx hb dX7_pack_109 (by decide) ?_
        refine lv_icmp_ne (tgt := 141) hx hb dX7_pack_110 (by decide) (fun h24 => ?_) (fun h24 => ?_)
        · have hf := pq_brf hf h24
          refine lv_aload_n hx hb dX7_pack_141 rfl (lv_at hl 0 rfl) ?_
          refine lv_iload_n hx hb dX7_pack_142 rfl (lv_at hl 1 rfl) ?_
          refine lv_aload_n hx hb dX7_pack_143 rfl (lv_at hl 0 rfl) ?_
          refine lv_iconst (v := (2 : Int32)) hx hb dX7_pack_144 (by decide) ?_
          refine lv_iload hx hb dX7_pack_145 (lv_at hl 6 rfl) ?_
          refine lv_imul hx hb dX7_pack_147 ?_
          obtain ⟨r25, hu26, hf⟩ := pq_clx hf
          refine pq_cvI (n := 1) (As := [.int ((2 : Int32) * x6)]) C hh (qX7_sampleAt l D cI cL th ad c_told c_sumZ c_sumE c_stepY c_odd c_even c_taped c_outs c_isFound f_tape ((2 : Int32) * x6) r25 hu26) (gvX7_sampleAt hs (pq_m29 _ (List.mem_of_getElem? (i := 6) rfl))) rfl (by decide +kernel) ⟨Nat.le_of_ble_eq_true rfl, Nat.le_of_ble_eq_true rfl⟩ 0 6 rfl rfl rfl hl.1 rfl rfl (Nat.le_of_ble_eq_true rfl) dX7_pack_148 ⟨Nat.zero_le _, Nat.zero_le _⟩ [0, 28] [1, 2, 3, 4, 5, 6, 7, 8, 9, 10, 11, 12, 13, 14, 15, 16, 17, 18, 19, 20, 21, 22, 23, 24, 25, 26, 27, 29] [28, 0, 1, 2, 3, 4, 5, 6, 7, 8, 9, 10, 11, 12, 13, 14, 15, 16, 17, 18, 19, 20, 21, 22, 23, 24, 25, 26, 29, 27] rfl rfl (by decide) (by decide) (by decide) rfl (fun H locs (hh : pq_H D A s (wX7_pack cI th ad c_told c_sumZ c_sumE c_stepY c_odd c_even c_taped c_outs c_isFound f_kinds f_g f_bounds2 f_bounds3 f_bounds4 f_bounds5 f_table2 f_table3 f_table4 f_table5 f_weight2 f_weight3 f_weight4 f_weight5 f_pace2 f_pace3 f_pace4 f_pace5 f_bands f_sieve f_coefficients f_steps f_roots f_ups f_highs f_lowWeights f_highWeights f_tape f_out) H locs) => ?_)
          obtain ⟨⟨r27, c28, c29, c30, f31⟩, hu32, hf⟩ := pq_clx hf
          have hf := pq_nmx hf r27 rfl
          have hf := pq_nmx hf c28 rfl
          have hf := pq_nmx hf c29 rfl
          have hf := pq_nmx hf c30 rfl
          have hf := pq_nmx hf f31 rfl
          refine pq_cvI (n := 2) (As := [.int x1, .int r25]) C hh (qX7_says l D cI cL th ad c_told c_sumZ c_sumE c_stepY c_odd c_even c_taped c_outs c_isFound f_kinds f_g f_bounds2 f_bounds3 f_bounds4 f_bounds5 f_table2 f_table3 f_table4 f_table5 f_weight2 f_weight3 f_weight4 f_weight5 f_pace2 f_pace3 f_pace4 f_pace5 x1 r25 (r27, c28, c29, c30, f31) hu32) (gvX7_says hs (pq_m16 _ (List.mem_of_getElem? (i := 4) rfl))) rfl (by decide +kernel) ⟨Nat.le_of_ble_eq_true rfl, Nat.le_of_ble_eq_true rfl⟩ 0 6 rfl rfl rfl hl.1 rfl rfl (Nat.le_of_ble_eq_true rfl) dX7_pack_151 ⟨Nat.zero_le _, Nat.zero_le _⟩ [0, 1, 2, 3, 4, 5, 6, 7, 8, 9, 10, 11, 12, 13, 14, 15, 16, 17, 18] [19, 20, 21, 22, 23, 24, 25, 26, 27, 28, 29] [11, 12, 13, 14, 15, 16, 17, 18, 19, 20, 21, 22, 23, 24, 25, 26, 27, 28, 29, 0, 1, 2, 3, 4, 5, 6, 7, 8, 9, 10] rfl rfl (by decide) (by decide) (by decide) rfl (fun H locs (hh : pq_H D A s (wX7_pack cI th ad c_told c28 c29 c30 c_odd c_even c_taped c_outs c_isFound f_kinds f31 f_bounds2 f_bounds3 f_bounds4 f_bounds5 f_table2 f_table3 f_table4 f_table5 f_weight2 f_weight3 f_weight4 f_weight5 f_pace2 f_pace3 f_pace4 f_pace5 f_bands f_sieve f_coefficients f_steps f_roots f_ups f_highs f_lowWeights f_highWeights f_tape f_out) H locs) => ?_)
          exact J154 x1 x2 x3 x4 x5 x6 r27 c_told c28 c29 c30 c_odd c_even c_taped c_outs f31 f_bands f_sieve f_out _ _ hh ls (lv_sub hl [0, 1, 2, 3, 4, 5, 6] rfl) hf
        · have hf := pq_brt hf h24
          refine lv_aload_n hx hb dX7_pack_113 rfl (lv_at hl 0 rfl) ?_
          refine lv_iconst (v := (2 : Int32)) hx hb dX7_pack_114 (by decide) ?_
          refine lv_iload_n hx hb dX7_pack_115 rfl (lv_at hl 1 rfl) ?_
          refine lv_imul hx hb dX7_pack_116 ?_
          refine lv_aload_n hx hb dX7_pack_117 rfl (lv_at hl 0 rfl) ?_
          refine lv_iconst (v := (4 : Int32)) hx hb dX7_pack_118 (by decide) ?_
          refine lv_iload hx hb dX7_pack_119 (lv_at hl 6 rfl) ?_
          refine lv_imul hx hb dX7_pack_121 ?_
          obtain ⟨r34, hu35, hf⟩ := pq_clx hf
          refine pq_cvI (n := 1) (As := [.int ((4 : Int32) * x6)]) C hh (qX7_sampleAt l D cI cL th ad c_told c_sumZ c_sumE c_stepY c_odd c_even c_taped c_outs c_isFound f_tape ((4 : Int32) * x6) r34 hu35) (gvX7_sampleAt hs (pq_m29 _ (List.mem_of_getElem? (i := 6) rfl))) rfl (by decide +kernel) ⟨Nat.le_of_ble_eq_true rfl, Nat.le_of_ble_eq_true rfl⟩ 0 6 rfl rfl rfl hl.1 rfl rfl (Nat.le_of_ble_eq_true rfl) dX7_pack_122 ⟨Nat.zero_le _, Nat.zero_le _⟩ [0, 28] [1, 2, 3, 4, 5, 6, 7, 8, 9, 10, 11, 12, 13, 14, 15, 16, 17, 18, 19, 20, 21, 22, 23, 24, 25, 26, 27, 29] [28, 0, 1, 2, 3, 4, 5, 6, 7, 8, 9, 10, 11, 12, 13, 14, 15, 16, 17, 18, 19, 20, 21, 22, 23, 24, 25, 26, 29, 27] rfl rfl (by decide) (by decide) (by decide) rfl (fun H locs (hh : pq_H D A s (wX7_pack cI th ad c_told c_sumZ c_sumE c_stepY c_odd c_even c_taped c_outs c_isFound f_kinds f_g f_bounds2 f_bounds3 f_bounds4 f_bounds5 f_table2 f_table3 f_table4 f_table5 f_weight2 f_weight3 f_weight4 f_weight5 f_pace2 f_pace3 f_pace4 f_pace5 f_bands f_sieve f_coefficients f_steps f_roots f_ups f_highs f_lowWeights f_highWeights f_tape f_out) H locs) => ?_)
          refine lv_aload_n hx hb dX7_pack_125 rfl (lv_at hl 0 rfl) ?_
          refine lv_iconst (v := (4 : Int32)) hx hb dX7_pack_126 (by decide) ?_
          refine lv_iload hx hb dX7_pack_127 (lv_at hl 6 rfl) ?_
          refine lv_imul hx hb dX7_pack_129 ?_
          refine lv_iconst (v := (2 : Int32)) hx hb dX7_pack_130 (by decide) ?_
          refine lv_iadd hx hb dX7_pack_131 ?_
          obtain ⟨r36, hu37, hf⟩ := pq_clx hf
          refine pq_cvI (n := 1) (As := [.int (((4 : Int32) * x6) + (2 : Int32))]) C hh (qX7_sampleAt l D cI cL th ad c_told c_sumZ c_sumE c_stepY c_odd c_even c_taped c_outs c_isFound f_tape (((4 : Int32) * x6) + (2 : Int32)) r36 hu37) (gvX7_sampleAt hs (pq_m29 _ (List.mem_of_getElem? (i := 6) rfl))) rfl (by decide +kernel) ⟨Nat.le_of_ble_eq_true rfl, Nat.le_of_ble_eq_true rfl⟩ 0 6 rfl rfl rfl hl.1 rfl rfl (Nat.le_of_ble_eq_true rfl) dX7_pack_132 ⟨Nat.zero_le _, Nat.zero_le _⟩ [0, 28] [1, 2, 3, 4, 5, 6, 7, 8, 9, 10, 11, 12, 13, 14, 15, 16, 17, 18, 19, 20, 21, 22, 23, 24, 25, 26, 27, 29] [28, 0, 1, 2, 3, 4, 5, 6, 7, 8, 9, 10, 11, 12, 13, 14, 15, 16, 17, 18, 19, 20, 21, 22, 23, 24, 25, 26, 29, 27] rfl rfl (by decide) (by decide) (by decide) rfl (fun H locs (hh : pq_H D A s (wX7_pack cI th ad c_told c_sumZ c_sumE c_stepY c_odd c_even c_taped c_outs c_isFound f_kinds f_g f_bounds2 f_bounds3 f_bounds4 f_bounds5 f_table2 f_table3 f_table4 f_table5 f_weight2 f_weight3 f_weight4 f_weight5 f_pace2 f_pace3 f_pace4 f_pace5 f_bands f_sieve f_coefficients f_steps f_roots f_ups f_highs f_lowWeights f_highWeights f_tape f_out) H locs) => ?_)
          obtain ⟨⟨r38, c39, c40, f41, f42⟩, hu43, hf⟩ := pq_clx hf
          have hf := pq_nmx hf r38 rfl
          have hf := pq_nmx hf c39 rfl
          have hf := pq_nmx hf c40 rfl
          have hf := pq_nmx hf f41 rfl
          have hf := pq_nmx hf f42 rfl
          refine pq_cvI (n := 3) (As := [.int ((2 : Int32) * x1), .int r34, .int r36]) C hh (qX7_says722 l D cI cL th ad c_told c_sumZ c_sumE c_stepY c_odd c_even c_taped c_outs c_isFound f_bands f_sieve f_coefficients f_steps f_roots f_ups f_highs f_lowWeights f_highWeights ((2 : Int32) * x1) r34 r36 (r38, c39, c40, f41, f42) hu43) (gvX7_says722 hs (pq_m19 _ (List.mem_of_getElem? (i := 23) rfl))) rfl (by decide +kernel) ⟨Nat.le_of_ble_eq_true rfl, Nat.le_of_ble_eq_true rfl⟩ 0 6 rfl rfl rfl hl.1 rfl rfl (Nat.le_of_ble_eq_true rfl) dX7_pack_135 ⟨Nat.zero_le _, Nat.zero_le _⟩ [0, 19, 20, 21, 22, 23, 24, 25, 26, 27] [1, 2, 3, 4, 5, 6, 7, 8, 9, 10, 11, 12, 13, 14, 15, 16, 17, 18, 28, 29] [20, 0, 1, 2, 3, 4, 5, 6, 7, 8, 9, 10, 11, 12, 13, 14, 15, 16, 17, 21, 22, 23, 24, 25, 26, 27, 28, 29, 18, 19] rfl rfl (by decide) (by decide) (by decide) rfl (fun H locs (hh : pq_H D A s (wX7_pack cI th ad c_told c_sumZ c_sumE c_stepY c39 c40 c_taped c_outs c_isFound f_kinds f_g f_bounds2 f_bounds3 f_bounds4 f_bounds5 f_table2 f_table3 f_table4 f_table5 f_weight2 f_weight3 f_weight4 f_weight5 f_pace2 f_pace3 f_pace4 f_pace5 f41 f42 f_coefficients f_steps f_roots f_ups f_highs f_lowWeights f_highWeights f_tape f_out) H locs) => ?_)
          refine lv_goto (tgt := 154) hx hb dX7_pack_138 (by decide) ?_
          exact J154 x1 x2 x3 x4 x5 x6 r38 c_told c_sumZ c_sumE c_stepY c39 c40 c_taped c_outs f_g f41 f42 f_out _ _ hh ls (lv_sub hl [0, 1, 2, 3, 4, 5, 6] rfl) hf
  have J75 : ∀ (fuel75 : Nat) (x1 : Int32) (x2 : Int32) (x3 : Int32) (x4 : Int32) (x5 : Int32) (x6 : Int32) (c_told : Int32) (c_sumZ : Int32) (c_sumE : Int32) (c_stepY : Int32) (c_odd : Int32) (c_even : Int32) (c_taped : Int32) (c_outs : Int32) (f_g : Nat → Int32) (f_bands : Nat → Int32) (f_sieve : Nat → Int32) (f_out : Nat → Int32) (H : Heap) (locs : List Loc), pq_H D A s (wX7_pack cI th ad c_told c_sumZ c_sumE c_stepY c_odd c_even c_taped c_outs c_isFound f_kinds f_g f_bounds2 f_bounds3 f_bounds4 f_bounds5 f_table2 f_table3 f_table4 f_table5 f_weight2 f_weight3 f_weight4 f_weight5 f_pace2 f_pace3 f_pace4 f_pace5 f_bands f_sieve f_coefficients f_steps f_roots f_ups f_highs f_lowWeights f_highWeights f_tape f_out) H locs → ∀ ls : Array Slot, lv_has ls 9 [(0, .ref th), (1, .int x1), (2, .int x2), (3, .int x3), (4, .int x4), (5, .int x5), (6, .int x6)] → fX7_pack_b75  f_kinds f_bounds2 f_bounds3 f_bounds4 f_bounds5 f_table2 f_table3 f_table4 f_table5 f_weight2 f_weight3 f_weight4 f_weight5 f_pace2 f_pace3 f_pace4 f_pace5 f_coefficients f_steps f_roots f_ups f_highs f_lowWeights f_highWeights f_tape fuel75 x1 x2 x3 x4 x5 x6 c_told c_sumZ c_sumE c_stepY c_odd c_even c_taped c_outs f_g f_bands f_sieve f_out = some res → W p l e (pq_rm 5 139) s m args below meth c H locs 0 0 Q (F0 m 75 ls []) := by
    intro fuel75
    induction fuel75 with
    | zero => intro x1 x2 x3 x4 x5 x6 c_told c_sumZ c_sumE c_stepY c_odd c_even c_taped c_outs f_g f_bands f_sieve f_out H locs hh ls hl hf; rw [fX7_pack_b75] at hf; cases hf
    | succ fuel75 ih75 =>
      intro x1 x2 x3 x4 x5 x6 c_told c_sumZ c_sumE c_stepY c_odd c_even c_taped c_outs f_g f_bands f_sieve f_out H locs hh ls hl hf
      rw [fX7_pack_b75] at hf
      refine lv_iload hx hb dX7_pack_75 (lv_at hl 6 rfl) ?_
      refine lv_aload_n hx hb dX7_pack_77 rfl (lv_at hl 0 rfl) ?_
      refine pq_get C hh i7 0 6 rfl rfl 39 (by decide) kf260 rfl rfl dX7_pack_78 ?_
      refine lv_icmp_ge (tgt := 98) hx hb dX7_pack_81 (by decide) (fun h17 => ?_) (fun h17 => ?_)
      · have hf := pq_brt hf h17
        refine lv_iconst (v := (0 : Int32)) hx hb dX7_pack_98 (by decide) ?_
        refine lv_istore (lv' := [(6, .int (0 : Int32)), (0, .ref th), (1, .int x1), (2, .int x2), (3, .int x3), (4, .int x4), (5, .int x5)]) hx hb dX7_pack_99 hl (by decide) rfl (fun ls hl => ?_)
        exact J101 1100 x1 x2 x3 x4 x5 (0 : Int32) c_told c_sumZ c_sumE c_stepY c_odd c_even c_taped c_outs f_g f_bands f_sieve f_out _ _ hh ls (lv_sub hl [1, 2, 3, 4, 5, 6, 0] rfl) hf
      · have hf := pq_brf hf h17
        refine lv_aload_n hx hb dX7_pack_84 rfl (lv_at hl 0 rfl) ?_
        refine pq_get C hh i7 0 6 rfl rfl 38 (by decide) kf105 rfl rfl dX7_pack_85 ?_
        refine lv_iload hx hb dX7_pack_88 (lv_at hl 6 rfl) ?_
        refine lv_iconst (v := (0 : Int32)) hx hb dX7_pack_90 (by decide) ?_
        obtain ⟨h18, hf⟩ := pq_wrx hf
        refine pq_iast C hh 29 rfl h18 dX7_pack_91 (fun H locs f19 e20 (hh : pq_H D A s (wX7_pack cI th ad c_told c_sumZ c_sumE c_stepY c_odd c_even c_taped c_outs c_isFound f_kinds f_g f_bounds2 f_bounds3 f_bounds4 f_bounds5 f_table2 f_table3 f_table4 f_table5 f_weight2 f_weight3 f_weight4 f_weight5 f_pace2 f_pace3 f_pace4 f_pace5 f_bands f_sieve f_coefficients f_steps f_roots f_ups f_highs f_lowWeights f_highWeights f_tape f19) H locs) => ?_)
        have hf := hf f19 e20
        obtain ⟨v21, e22⟩ : ∃ y : Int32, y = x6 + (1 : Int32) := ⟨_, rfl⟩
        refine lv_iinc (v := v21) (lv' := [(6, .int v21), (0, .ref th), (1, .int x1), (2, .int x2), (3, .int x3), (4, .int x4), (5, .int x5)]) hx hb dX7_pack_92 hl (k := 6) rfl (by rw [e22]; rfl) (by decide) rfl (fun ls hl => ?_)
        have hf := pq_nmx hf v21 e22
        refine lv_goto (tgt := 75) hx hb dX7_pack_95 (by decide) ?_
        exact ih75 x1 x2 x3 x4 x5 v21 c_told c_sumZ c_sumE c_stepY c_odd c_even c_taped c_outs f_g f_bands f_sieve f19 _ _ hh ls (lv_sub hl [1, 2, 3, 4, 5, 6, 0] rfl) hf
  have J29 : ∀ (x1 : Int32) (x2 : Int32) (s0 : Int32) (c_told : Int32) (c_sumZ : Int32) (c_sumE : Int32) (c_stepY : Int32) (c_odd : Int32) (c_even : Int32) (c_taped : Int32) (c_outs : Int32) (f_g : Nat → Int32) (f_bands : Nat → Int32) (f_sieve : Nat → Int32) (f_out : Nat → Int32) (H : Heap) (locs : List Loc), pq_H D A s (wX7_pack cI th ad c_told c_sumZ c_sumE c_stepY c_odd c_even c_taped c_outs c_isFound f_kinds f_g f_bounds2 f_bounds3 f_bounds4 f_bounds5 f_table2 f_table3 f_table4 f_table5 f_weight2 f_weight3 f_weight4 f_weight5 f_pace2 f_pace3 f_pace4 f_pace5 f_bands f_sieve f_coefficients f_steps f_roots f_ups f_highs f_lowWeights f_highWeights f_tape f_out) H locs → ∀ ls : Array Slot, lv_has ls 9 [(0, .ref th), (1, .int x1), (2, .int x2)] → fX7_pack_b29  f_kinds f_bounds2 f_bounds3 f_bounds4 f_bounds5 f_table2 f_table3 f_table4 f_table5 f_weight2 f_weight3 f_weight4 f_weight5 f_pace2 f_pace3 f_pace4 f_pace5 f_coefficients f_steps f_roots f_ups f_highs f_lowWeights f_highWeights f_tape x1 x2 s0 c_told c_sumZ c_sumE c_stepY c_odd c_even c_taped c_outs f_g f_bands f_sieve f_out = some res → W p l e (pq_rm 5 139) s m args below meth c H locs 0 0 Q (F0 m 29 ls [.int s0]) := by
    intro x1 x2 s0 c_told c_sumZ c_sumE c_stepY c_odd c_even c_taped c_outs f_g f_bands f_sieve f_out H locs hh ls hl hf
    rw [fX7_pack_b29] at hf
    refine lv_istore_n (lv' := [(3, .int s0), (0, .ref th), (1, .int x1), (2, .int x2)]) hx hb dX7_pack_29 rfl hl (by decide) rfl (fun ls hl => ?_)
    refine lv_aload_n hx hb dX7_pack_30 rfl (lv_at hl 1 rfl) ?_
    refine pq_get C hh i7 0 6 rfl rfl 37 (by decide) kf254 rfl rfl dX7_pack_31 ?_
    refine lv_iload_n hx hb dX7_pack_34 rfl (lv_at hl 0 rfl) ?_
    obtain ⟨h7, hf⟩ := pq_nzx hf
    refine lv_irem hx hb dX7_pack_35 h7 ?_
    refine lv_if_eq (tgt := 42) hx hb dX7_pack_36 (by decide) (fun h8 => ?_) (fun h8 => ?_)
    · have hf := pq_brt hf h8
      refine lv_aload_n hx hb dX7_pack_42 rfl (lv_at hl 1 rfl) ?_
      refine pq_get C hh i7 0 6 rfl rfl 37 (by decide) kf254 rfl rfl dX7_pack_43 ?_
      refine lv_iload_n hx hb dX7_pack_46 rfl (lv_at hl 0 rfl) ?_
      obtain ⟨h9, hf⟩ := pq_nzx hf
      refine lv_idiv hx hb dX7_pack_47 h9 ?_
      refine lv_topi (fun v10 e11 => ?_)
      have hf := pq_nmx hf v10 e11
      refine lv_istore (lv' := [(4, .int v10), (3, .int s0), (0, .ref th), (1, .int x1), (2, .int x2)]) hx hb dX7_pack_48 hl (by decide) rfl (fun ls hl => ?_)
      refine lv_aload_n hx hb dX7_pack_50 rfl (lv_at hl 2 rfl) ?_
      refine lv_iload_n hx hb dX7_pack_51 rfl (lv_at hl 3 rfl) ?_
      obtain ⟨r12, hu13, hf⟩ := pq_clx hf
      refine pq_cvI (n := 1) (As := [.int x1]) C hh (qX7_bitsOf l D cI cL th ad c_told c_sumZ c_sumE c_stepY c_odd c_even c_taped c_outs c_isFound f_kinds x1 r12 hu13) (gvX7_bitsOf hs (pq_m22 _ (List.mem_of_getElem? (i := 20) rfl))) rfl (by decide +kernel) ⟨Nat.le_of_ble_eq_true rfl, Nat.le_of_ble_eq_true rfl⟩ 0 6 rfl rfl rfl hl.1 rfl rfl (Nat.le_of_ble_eq_true rfl) dX7_pack_52 ⟨Nat.zero_le _, Nat.zero_le _⟩ [0, 1] [2, 3, 4, 5, 6, 7, 8, 9, 10, 11, 12, 13, 14, 15, 16, 17, 18, 19, 20, 21, 22, 23, 24, 25, 26, 27, 28, 29] [28, 29, 0, 1, 2, 3, 4, 5, 6, 7, 8, 9, 10, 11, 12, 13, 14, 15, 16, 17, 18, 19, 20, 21, 22, 23, 24, 25, 26, 27] rfl rfl (by decide) (by decide) (by decide) rfl (fun H locs (hh : pq_H D A s (wX7_pack cI th ad c_told c_sumZ c_sumE c_stepY c_odd c_even c_taped c_outs c_isFound f_kinds f_g f_bounds2 f_bounds3 f_bounds4 f_bounds5 f_table2 f_table3 f_table4 f_table5 f_weight2 f_weight3 f_weight4 f_weight5 f_pace2 f_pace3 f_pace4 f_pace5 f_bands f_sieve f_coefficients f_steps f_roots f_ups f_highs f_lowWeights f_highWeights f_tape f_out) H locs) => ?_)
      refine lv_istore (lv' := [(5, .int r12), (4, .int v10), (3, .int s0), (0, .ref th), (1, .int x1), (2, .int x2)]) hx hb dX7_pack_55 hl (by decide) rfl (fun ls hl => ?_)
      refine lv_aload_n hx hb dX7_pack_57 rfl (lv_at hl 3 rfl) ?_
      refine lv_iload hx hb dX7_pack_58 (lv_at hl 1 rfl) ?_
      refine lv_iload hx hb dX7_pack_60 (lv_at hl 0 rfl) ?_
      refine lv_imul hx hb dX7_pack_62 ?_
      refine lv_bipush (v := (7 : Int32)) hx hb dX7_pack_63 (by decide) ?_
      refine lv_iadd hx hb dX7_pack_65 ?_
      refine lv_bipush (v := (8 : Int32)) hx hb dX7_pack_66 (by decide) ?_
      obtain ⟨h14, hf⟩ := pq_nzx hf
      refine lv_idiv hx hb dX7_pack_68 h14 ?_
      refine lv_topi (fun v15 e16 => ?_)
      have hf := pq_nmx hf v15 e16
      refine pq_put (ty := .int) (v := .int v15) C hh i7 tyX7 tyX7_ok nmX7 0 6 rfl rfl 39 (by decide) kf260 rfl rfl (by decide +kernel) rfl rfl (Nat.le_of_ble_eq_true rfl) dX7_pack_69 (fun H locs (hh : pq_H D A s (wX7_pack cI th ad c_told c_sumZ c_sumE c_stepY c_odd c_even c_taped v15 c_isFound f_kinds f_g f_bounds2 f_bounds3 f_bounds4 f_bounds5 f_table2 f_table3 f_table4 f_table5 f_weight2 f_weight3 f_weight4 f_weight5 f_pace2 f_pace3 f_pace4 f_pace5 f_bands f_sieve f_coefficients f_steps f_roots f_ups f_highs f_lowWeights f_highWeights f_tape f_out) H locs) => ?_)
      refine lv_iconst (v := (0 : Int32)) hx hb dX7_pack_72 (by decide) ?_
      refine lv_istore (lv' := [(6, .int (0 : Int32)), (5, .int r12), (4, .int v10), (3, .int s0), (0, .ref th), (1, .int x1), (2, .int x2)]) hx hb dX7_pack_73 hl (by decide) rfl (fun ls hl => ?_)
      exact J75 1100 x1 x2 s0 v10 r12 (0 : Int32) c_told c_sumZ c_sumE c_stepY c_odd c_even c_taped v15 f_g f_bands f_sieve f_out _ _ hh ls (lv_sub hl [4, 5, 6, 3, 2, 1, 0] rfl) hf
    · have hf := pq_brf hf h8
      refine lv_ldc (v := (-100000 : Int32)) hx hb hown kc9 dX7_pack_39 ?_
      obtain rfl := Option.some.inj hf
      exact hret _ _ _ ls hh dX7_pack_41 rfl
  rw [fX7_pack] at hf
  refine lv_aload_n hx hb dX7_pack_0 rfl (lv_at hl 0 rfl) ?_
  refine lv_iconst (v := (0 : Int32)) hx hb dX7_pack_1 (by decide) ?_
  refine pq_put (ty := .int) (v := .int (0 : Int32)) C hh i7 tyX7 tyX7_ok nmX7 0 6 rfl rfl 0 (by decide) kf114 rfl rfl (by decide +kernel) rfl rfl (Nat.le_of_ble_eq_true rfl) dX7_pack_2 (fun H locs (hh : pq_H D A s (wX7_pack cI th ad (0 : Int32) c_sumZ c_sumE c_stepY c_odd c_even c_taped c_outs c_isFound f_kinds f_g f_bounds2 f_bounds3 f_bounds4 f_bounds5 f_table2 f_table3 f_table4 f_table5 f_weight2 f_weight3 f_weight4 f_weight5 f_pace2 f_pace3 f_pace4 f_pace5 f_bands f_sieve f_coefficients f_steps f_roots f_ups f_highs f_lowWeights f_highWeights f_tape f_out) H locs) => ?_)
  refine lv_aload_n hx hb dX7_pack_5 rfl (lv_at hl 0 rfl) ?_
  refine lv_iload_n hx hb dX7_pack_6 rfl (lv_at hl 1 rfl) ?_
  obtain ⟨r1, hu2, hf⟩ := pq_clx hf
  refine pq_cvI (n := 1) (As := [.int a1]) C hh (qX7_isOpen l D cI cL th ad (0 : Int32) c_sumZ c_sumE c_stepY c_odd c_even c_taped c_outs c_isFound f_kinds a1 r1 hu2) (gvX7_isOpen hs (pq_m15 _ (List.mem_of_getElem? (i := 16) rfl))) rfl (by decide +kernel) ⟨Nat.le_of_ble_eq_true rfl, Nat.le_of_ble_eq_true rfl⟩ 0 6 rfl rfl rfl hl.1 rfl rfl (Nat.le_of_ble_eq_true rfl) dX7_pack_7 ⟨Nat.zero_le _, Nat.zero_le _⟩ [0, 1] [2, 3, 4, 5, 6, 7, 8, 9, 10, 11, 12, 13, 14, 15, 16, 17, 18, 19, 20, 21, 22, 23, 24, 25, 26, 27, 28, 29] [28, 29, 0, 1, 2, 3, 4, 5, 6, 7, 8, 9, 10, 11, 12, 13, 14, 15, 16, 17, 18, 19, 20, 21, 22, 23, 24, 25, 26, 27] rfl rfl (by decide) (by decide) (by decide) rfl (fun H locs (hh : pq_H D A s (wX7_pack cI th ad (0 : Int32) c_sumZ c_sumE c_stepY c_odd c_even c_taped c_outs c_isFound f_kinds f_g f_bounds2 f_bounds3 f_bounds4 f_bounds5 f_table2 f_table3 f_table4 f_table5 f_weight2 f_weight3 f_weight4 f_weight5 f_pace2 f_pace3 f_pace4 f_pace5 f_bands f_sieve f_coefficients f_steps f_roots f_ups f_highs f_lowWeights f_highWeights f_tape f_out) H locs) => ?_)
  refine lv_if_ne (tgt := 16) hx hb dX7_pack_10 (by decide) (fun h3 => ?_) (fun h3 => ?_)
  · have hf := pq_brf hf h3
    refine lv_aload_n hx hb dX7_pack_16 rfl (lv_at hl 0 rfl) ?_
    refine lv_iload_n hx hb dX7_pack_17 rfl (lv_at hl 1 rfl) ?_
    obtain ⟨r4, hu5, hf⟩ := pq_clx hf
    refine pq_cvI (n := 1) (As := [.int a1]) C hh (qX7_isPaired l D cI cL th ad (0 : Int32) c_sumZ c_sumE c_stepY c_odd c_even c_taped c_outs c_isFound f_kinds a1 r4 hu5) (gvX7_isPaired hs (pq_m15 _ (List.mem_of_getElem? (i := 20) rfl))) rfl (by decide +kernel) ⟨Nat.le_of_ble_eq_true rfl, Nat.le_of_ble_eq_true rfl⟩ 0 6 rfl rfl rfl hl.1 rfl rfl (Nat.le_of_ble_eq_true rfl) dX7_pack_18 ⟨Nat.zero_le _, Nat.zero_le _⟩ [0, 1] [2, 3, 4, 5, 6, 7, 8, 9, 10, 11, 12, 13, 14, 15, 16, 17, 18, 19, 20, 21, 22, 23, 24, 25, 26, 27, 28, 29] [28, 29, 0, 1, 2, 3, 4, 5, 6, 7, 8, 9, 10, 11, 12, 13, 14, 15, 16, 17, 18, 19, 20, 21, 22, 23, 24, 25, 26, 27] rfl rfl (by decide) (by decide) (by decide) rfl (fun H locs (hh : pq_H D A s (wX7_pack cI th ad (0 : Int32) c_sumZ c_sumE c_stepY c_odd c_even c_taped c_outs c_isFound f_kinds f_g f_bounds2 f_bounds3 f_bounds4 f_bounds5 f_table2 f_table3 f_table4 f_table5 f_weight2 f_weight3 f_weight4 f_weight5 f_pace2 f_pace3 f_pace4 f_pace5 f_bands f_sieve f_coefficients f_steps f_roots f_ups f_highs f_lowWeights f_highWeights f_tape f_out) H locs) => ?_)
    refine lv_if_eq (tgt := 28) hx hb dX7_pack_21 (by decide) (fun h6 => ?_) (fun h6 => ?_)
    · have hf := pq_brt hf h6
      refine lv_iconst (v := (2 : Int32)) hx hb dX7_pack_28 (by decide) ?_
      exact J29 a1 a2 (2 : Int32) (0 : Int32) c_sumZ c_sumE c_stepY c_odd c_even c_taped c_outs f_g f_bands f_sieve f_out _ _ hh ls (lv_sub hl [0, 1, 2] rfl) hf
    · have hf := pq_brf hf h6
      refine lv_iconst (v := (4 : Int32)) hx hb dX7_pack_24 (by decide) ?_
      refine lv_goto (tgt := 29) hx hb dX7_pack_25 (by decide) ?_
      exact J29 a1 a2 (4 : Int32) (0 : Int32) c_sumZ c_sumE c_stepY c_odd c_even c_taped c_outs f_g f_bands f_sieve f_out _ _ hh ls (lv_sub hl [0, 1, 2] rfl) hf
  · have hf := pq_brt hf h3
    refine lv_ldc (v := (-100000 : Int32)) hx hb hown kc9 dX7_pack_13 ?_
    obtain rfl := Option.some.inj hf
    exact hret _ _ _ ls hh dX7_pack_15 rfl
set_option maxHeartbeats 4000000 in
set_option maxRecDepth 100000 in
theorem qX7_sample (l : Launch) (D : va_G) (cI cL : ClassId) (th : Nat) (ad : Nat → Nat) (c_told : Int32) (c_sumZ : Int32) (c_sumE : Int32) (c_stepY : Int32) (c_odd : Int32) (c_even : Int32) (c_taped : Int32) (c_outs : Int32) (c_isFound : Int32) (f_out : Nat → Int32) (a1 : Int32) (res : Int32 × (Nat → Int32)) (hf : fX7_sample a1 c_outs f_out = some res) : pq_CV l yX7_sample qsX7_sample 0 0 D cI cL [.ref th, .int a1] (wX7_sample cI th ad c_told c_sumZ c_sumE c_stepY c_odd c_even c_taped c_outs c_isFound f_out) (wX7_sample cI th ad c_told c_sumZ c_sumE c_stepY c_odd c_even c_taped res.1 c_isFound res.2) := by
  refine pq_mkV (cc := cX7_sample) (maxL := 2) (by decide) rfl (Nat.le_of_ble_eq_true rfl) ?_
  intro p e s m args below meth c Q A C hh hret ls hl
  have hx := C.1
  have hb := C.2.1
  have hml := C.2.2.1
  have hown : s.vm.findClass RX7 = some m.cls := C.2.2.2.1
  have hs : ∀ w ∈ wsL_law, w ∈ qsX7_sample := fun _ h => List.mem_cons_of_mem _ h
  have htw : ∀ w ∈ wsL_law, w.before args s = true := fun w h => C.2.2.2.2.1 w (hs w h)
  have hl : lv_has ls 2 [(0, .ref th), (1, .int a1)] := hl
  have i7 : ∀ w ∈ wsX70, w ∈ qsX7_sample := fun w h => hs w (pq_i7 w h)
  have kf105 := htw (.fieldLink RX7 105 "VoiceDeskModel" "out" "[I") (pq_m5 _ (List.mem_of_getElem? (i := 5) rfl))
  have kf260 := htw (.fieldLink RX7 260 "VoiceDeskModel" "outs" "I") (pq_m27 _ (List.mem_of_getElem? (i := 8) rfl))
  rw [fX7_sample] at hf
  refine lv_aload_n hx hb dX7_sample_0 rfl (lv_at hl 0 rfl) ?_
  refine pq_get C hh i7 0 6 rfl rfl 38 (by decide) kf105 rfl rfl dX7_sample_1 ?_
  refine lv_aload_n hx hb dX7_sample_4 rfl (lv_at hl 0 rfl) ?_
  refine pq_get C hh i7 0 6 rfl rfl 39 (by decide) kf260 rfl rfl dX7_sample_5 ?_
  refine lv_iload_n hx hb dX7_sample_8 rfl (lv_at hl 1 rfl) ?_
  refine lv_bipush (v := (8 : Int32)) hx hb dX7_sample_9 (by decide) ?_
  refine lv_ishr hx hb dX7_sample_11 ?_
  refine lv_sipush (v := (255 : Int32)) hx hb dX7_sample_12 (by decide) ?_
  refine lv_iand hx hb dX7_sample_15 ?_
  obtain ⟨h1, hf⟩ := pq_wrx hf
  refine pq_iast C hh 1 rfl h1 dX7_sample_16 (fun H locs f2 e3 (hh : pq_H D A s (wX7_sample cI th ad c_told c_sumZ c_sumE c_stepY c_odd c_even c_taped c_outs c_isFound f2) H locs) => ?_)
  have hf := hf f2 e3
  refine lv_aload_n hx hb dX7_sample_17 rfl (lv_at hl 0 rfl) ?_
  refine pq_get C hh i7 0 6 rfl rfl 38 (by decide) kf105 rfl rfl dX7_sample_18 ?_
  refine lv_aload_n hx hb dX7_sample_21 rfl (lv_at hl 0 rfl) ?_
  refine pq_get C hh i7 0 6 rfl rfl 39 (by decide) kf260 rfl rfl dX7_sample_22 ?_
  refine lv_iconst (v := (1 : Int32)) hx hb dX7_sample_25 (by decide) ?_
  refine lv_iadd hx hb dX7_sample_26 ?_
  refine lv_iload_n hx hb dX7_sample_27 rfl (lv_at hl 1 rfl) ?_
  refine lv_sipush (v := (255 : Int32)) hx hb dX7_sample_28 (by decide) ?_
  refine lv_iand hx hb dX7_sample_31 ?_
  obtain ⟨h4, hf⟩ := pq_wrx hf
  refine pq_iast C hh 1 rfl h4 dX7_sample_32 (fun H locs f5 e6 (hh : pq_H D A s (wX7_sample cI th ad c_told c_sumZ c_sumE c_stepY c_odd c_even c_taped c_outs c_isFound f5) H locs) => ?_)
  have hf := hf f5 e6
  refine lv_aload_n hx hb dX7_sample_33 rfl (lv_at hl 0 rfl) ?_
  refine lv_aload_n hx hb dX7_sample_34 rfl (lv_at hl 0 rfl) ?_
  refine pq_get C hh i7 0 6 rfl rfl 39 (by decide) kf260 rfl rfl dX7_sample_35 ?_
  refine lv_iconst (v := (2 : Int32)) hx hb dX7_sample_38 (by decide) ?_
  refine lv_iadd hx hb dX7_sample_39 ?_
  refine lv_topi (fun v7 e8 => ?_)
  have hf := pq_nmx hf v7 e8
  refine pq_put (ty := .int) (v := .int v7) C hh i7 tyX7 tyX7_ok nmX7 0 6 rfl rfl 39 (by decide) kf260 rfl rfl (by decide +kernel) rfl rfl (Nat.le_of_ble_eq_true rfl) dX7_sample_40 (fun H locs (hh : pq_H D A s (wX7_sample cI th ad c_told c_sumZ c_sumE c_stepY c_odd c_even c_taped v7 c_isFound f5) H locs) => ?_)
  obtain rfl := Option.some.inj hf
  exact hret _ _ _ ls hh dX7_sample_43
set_option maxHeartbeats 4000000 in
set_option maxRecDepth 100000 in
theorem qX7_unpack (l : Launch) (D : va_G) (cI cL : ClassId) (th : Nat) (ad : Nat → Nat) (c_told : Int32) (c_sumZ : Int32) (c_sumE : Int32) (c_stepY : Int32) (c_odd : Int32) (c_even : Int32) (c_taped : Int32) (c_outs : Int32) (c_isFound : Int32) (f_kinds : Nat → Int32) (f_seconds : Nat → Int32) (f_g : Nat → Int32) (f_table2 : Nat → Int32) (f_table3 : Nat → Int32) (f_table4 : Nat → Int32) (f_table5 : Nat → Int32) (f_weight2 : Nat → Int32) (f_weight3 : Nat → Int32) (f_weight4 : Nat → Int32) (f_weight5 : Nat → Int32) (f_pace2 : Nat → Int32) (f_pace3 : Nat → Int32) (f_pace4 : Nat → Int32) (f_pace5 : Nat → Int32) (f_bands : Nat → Int32) (f_sieve : Nat → Int32) (f_coefficients : Nat → Int32) (f_roots : Nat → Int32) (f_ups : Nat → Int32) (f_highs : Nat → Int32) (f_lowWeights : Nat → Int32) (f_highWeights : Nat → Int32) (f_heard56 : Nat → Int32) (f_heard64 : Nat → Int32) (f_tape : Nat → Int32) (f_out : Nat → Int32) (a1 : Int32) (a2 : Int32) (a3 : Int32) (res : Int32 × Int32 × Int32 × Int32 × Int32 × Int32 × Int32 × Int32 × Int32 × (Nat → Int32) × (Nat → Int32) × (Nat → Int32) × (Nat → Int32) × (Nat → Int32)) (hf : fX7_unpack a1 a2 a3 f_kinds f_table2 f_table3 f_table4 f_table5 f_weight2 f_weight3 f_weight4 f_weight5 f_pace2 f_pace3 f_pace4 f_pace5 f_coefficients f_roots f_ups f_highs f_lowWeights f_highWeights f_heard56 f_heard64 f_tape c_told c_sumZ c_sumE c_stepY c_odd c_even c_taped c_outs f_seconds f_g f_bands f_sieve f_out = some res) : pq_CI l yX7_unpack qsX7_unpack 5 133 D cI cL [.ref th, .int a1, .int a2, .int a3] (wX7_unpack cI th ad c_told c_sumZ c_sumE c_stepY c_odd c_even c_taped c_outs c_isFound f_kinds f_seconds f_g f_table2 f_table3 f_table4 f_table5 f_weight2 f_weight3 f_weight4 f_weight5 f_pace2 f_pace3 f_pace4 f_pace5 f_bands f_sieve f_coefficients f_roots f_ups f_highs f_lowWeights f_highWeights f_heard56 f_heard64 f_tape f_out) (wX7_unpack cI th ad res.2.1 res.2.2.1 res.2.2.2.1 res.2.2.2.2.1 res.2.2.2.2.2.1 res.2.2.2.2.2.2.1 res.2.2.2.2.2.2.2.1 res.2.2.2.2.2.2.2.2.1 c_isFound f_kinds res.2.2.2.2.2.2.2.2.2.1 res.2.2.2.2.2.2.2.2.2.2.1 f_table2 f_table3 f_table4 f_table5 f_weight2 f_weight3 f_weight4 f_weight5 f_pace2 f_pace3 f_pace4 f_pace5 res.2.2.2.2.2.2.2.2.2.2.2.1 res.2.2.2.2.2.2.2.2.2.2.2.2.1 f_coefficients f_roots f_ups f_highs f_lowWeights f_highWeights f_heard56 f_heard64 f_tape res.2.2.2.2.2.2.2.2.2.2.2.2.2) res.1 := by
  refine pq_mkI (cc := cX7_unpack) (maxL := 10) (RT := .int) (by decide) rfl (Nat.le_of_ble_eq_true rfl) ?_
  intro p e s m args below meth c Q A C hh hret ls hl
  have hx := C.1
  have hb := C.2.1
  have hml := C.2.2.1
  have hown : s.vm.findClass RX7 = some m.cls := C.2.2.2.1
  have hs : ∀ w ∈ wsL_law, w ∈ qsX7_unpack := fun _ h => List.mem_cons_of_mem _ h
  have htw : ∀ w ∈ wsL_law, w.before args s = true := fun w h => C.2.2.2.2.1 w (hs w h)
  have hl : lv_has ls 10 [(0, .ref th), (1, .int a1), (2, .int a2), (3, .int a3)] := hl
  have i7 : ∀ w ∈ wsX70, w ∈ qsX7_unpack := fun w h => hs w (pq_i7 w h)
  have kc9 := htw (.constant RX7 9 (-100000)) (pq_m3 _ (List.mem_of_getElem? (i := 20) rfl))
  have kf102 := htw (.fieldLink RX7 102 "VoiceDeskModel" "tape" "[I") (pq_m5 _ (List.mem_of_getElem? (i := 4) rfl))
  have kf114 := htw (.fieldLink RX7 114 "VoiceDeskModel" "told" "I") (pq_m6 _ (List.mem_of_getElem? (i := 17) rfl))
  have kf14 := htw (.fieldLink RX7 14 "VoiceDeskModel" "seconds" "[I") (pq_m3 _ (List.mem_of_getElem? (i := 22) rfl))
  have kf254 := htw (.fieldLink RX7 254 "VoiceDeskModel" "taped" "I") (pq_m26 _ (List.mem_of_getElem? (i := 7) rfl))
  have kf260 := htw (.fieldLink RX7 260 "VoiceDeskModel" "outs" "I") (pq_m27 _ (List.mem_of_getElem? (i := 8) rfl))
  have J62 : ∀ (fuel62 : Nat) (x1 : Int32) (x2 : Int32) (x3 : Int32) (x4 : Int32) (x5 : Int32) (c_told : Int32) (c_sumZ : Int32) (c_sumE : Int32) (c_stepY : Int32) (c_odd : Int32) (c_even : Int32) (c_taped : Int32) (c_outs : Int32) (f_seconds : Nat → Int32) (f_g : Nat → Int32) (f_bands : Nat → Int32) (f_sieve : Nat → Int32) (f_out : Nat → Int32) (H : Heap) (locs : List Loc), pq_H D A s (wX7_unpack cI th ad c_told c_sumZ c_sumE c_stepY c_odd c_even c_taped c_outs c_isFound f_kinds f_seconds f_g f_table2 f_table3 f_table4 f_table5 f_weight2 f_weight3 f_weight4 f_weight5 f_pace2 f_pace3 f_pace4 f_pace5 f_bands f_sieve f_coefficients f_roots f_ups f_highs f_lowWeights f_highWeights f_heard56 f_heard64 f_tape f_out) H locs → ∀ ls : Array Slot, lv_has ls 10 [(0, .ref th), (1, .int x1), (2, .int x2), (3, .int x3), (4, .int x4), (5, .int x5)] → fX7_unpack_b62  f_kinds f_table2 f_table3 f_table4 f_table5 f_weight2 f_weight3 f_weight4 f_weight5 f_pace2 f_pace3 f_pace4 f_pace5 f_coefficients f_roots f_ups f_highs f_lowWeights f_highWeights f_heard56 f_heard64 f_tape fuel62 x1 x2 x3 x4 x5 c_told c_sumZ c_sumE c_stepY c_odd c_even c_taped c_outs f_seconds f_g f_bands f_sieve f_out = some res → W p l e (pq_rm 5 133) s m args below meth c H locs 0 0 Q (F0 m 62 ls []) := by
    intro fuel62
    induction fuel62 with
    | zero => intro x1 x2 x3 x4 x5 c_told c_sumZ c_sumE c_stepY c_odd c_even c_taped c_outs f_seconds f_g f_bands f_sieve f_out H locs hh ls hl hf; rw [fX7_unpack_b62] at hf; cases hf
    | succ fuel62 ih62 =>
      have J185 : ∀ (x1 : Int32) (x2 : Int32) (x3 : Int32) (x4 : Int32) (x5 : Int32) (c_told : Int32) (c_sumZ : Int32) (c_sumE : Int32) (c_stepY : Int32) (c_odd : Int32) (c_even : Int32) (c_taped : Int32) (c_outs : Int32) (f_seconds : Nat → Int32) (f_g : Nat → Int32) (f_bands : Nat → Int32) (f_sieve : Nat → Int32) (f_out : Nat → Int32) (H : Heap) (locs : List Loc), pq_H D A s (wX7_unpack cI th ad c_told c_sumZ c_sumE c_stepY c_odd c_even c_taped c_outs c_isFound f_kinds f_seconds f_g f_table2 f_table3 f_table4 f_table5 f_weight2 f_weight3 f_weight4 f_weight5 f_pace2 f_pace3 f_pace4 f_pace5 f_bands f_sieve f_coefficients f_roots f_ups f_highs f_lowWeights f_highWeights f_heard56 f_heard64 f_tape f_out) H locs → ∀ ls : Array Slot, lv_has ls 10 [(0, .ref th), (1, .int x1), (2, .int x2), (3, .int x3), (4, .int x4), (5, .int x5)] → fX7_unpack_b185 (fX7_unpack_b62  f_kinds f_table2 f_table3 f_table4 f_table5 f_weight2 f_weight3 f_weight4 f_weight5 f_pace2 f_pace3 f_pace4 f_pace5 f_coefficients f_roots f_ups f_highs f_lowWeights f_highWeights f_heard56 f_heard64 f_tape fuel62) f_kinds f_table2 f_table3 f_table4 f_table5 f_weight2 f_weight3 f_weight4 f_weight5 f_pace2 f_pace3 f_pace4 f_pace5 f_coefficients f_roots f_ups f_highs f_lowWeights f_highWeights f_heard56 f_heard64 f_tape x1 x2 x3 x4 x5 c_told c_sumZ c_sumE c_stepY c_odd c_even c_taped c_outs f_seconds f_g f_bands f_sieve f_out = some res → W p l e (pq_rm 5 133) s m args below meth c H locs 0 0 Q (F0 m 185 ls []) := by
        intro x1 x2 x3 x4 x5 c_told c_sumZ c_sumE c_stepY c_odd c_even c_taped c_outs f_seconds f_g f_bands f_sieve f_out H locs hh ls hl hf
        rw [fX7_unpack_b185] at hf
        obtain ⟨v54, e55⟩ : ∃ y : Int32, y = x5 + (1 : Int32) := ⟨_, rfl⟩
        refine lv_iinc (v := v54) (lv' := [(5, .int v54), (0, .ref th), (1, .int x1), (2, .int x2), (3, .int x3), (4, .int x4)]) hx hb dX7_unpack_185 hl (k := 5) rfl (by rw [e55]; rfl) (by decide) rfl (fun ls hl => ?_)
        have hf := pq_nmx hf v54 e55
        refine lv_goto (tgt := 62) hx hb dX7_unpack_188 (by decide) ?_
        exact ih62 x1 x2 x3 x4 v54 c_told c_sumZ c_sumE c_stepY c_odd c_even c_taped c_outs f_seconds f_g f_bands f_sieve f_out _ _ hh ls (lv_sub hl [1, 2, 3, 4, 5, 0] rfl) hf
      have J74 : ∀ (fuel74 : Nat) (x1 : Int32) (x2 : Int32) (x3 : Int32) (x4 : Int32) (x5 : Int32) (x6 : Int32) (x7 : Int32) (c_told : Int32) (c_sumZ : Int32) (c_sumE : Int32) (c_stepY : Int32) (c_odd : Int32) (c_even : Int32) (c_taped : Int32) (c_outs : Int32) (f_seconds : Nat → Int32) (f_g : Nat → Int32) (f_bands : Nat → Int32) (f_sieve : Nat → Int32) (f_out : Nat → Int32) (H : Heap) (locs : List Loc), pq_H D A s (wX7_unpack cI th ad c_told c_sumZ c_sumE c_stepY c_odd c_even c_taped c_outs c_isFound f_kinds f_seconds f_g f_table2 f_table3 f_table4 f_table5 f_weight2 f_weight3 f_weight4 f_weight5 f_pace2 f_pace3 f_pace4 f_pace5 f_bands f_sieve f_coefficients f_roots f_ups f_highs f_lowWeights f_highWeights f_heard56 f_heard64 f_tape f_out) H locs → ∀ ls : Array Slot, lv_has ls 10 [(0, .ref th), (1, .int x1), (2, .int x2), (3, .int x3), (4, .int x4), (5, .int x5), (6, .int x6), (7, .int x7)] → fX7_unpack_b74 (fX7_unpack_b62  f_kinds f_table2 f_table3 f_table4 f_table5 f_weight2 f_weight3 f_weight4 f_weight5 f_pace2 f_pace3 f_pace4 f_pace5 f_coefficients f_roots f_ups f_highs f_lowWeights f_highWeights f_heard56 f_heard64 f_tape fuel62) f_kinds f_table2 f_table3 f_table4 f_table5 f_weight2 f_weight3 f_weight4 f_weight5 f_pace2 f_pace3 f_pace4 f_pace5 f_coefficients f_roots f_ups f_highs f_lowWeights f_highWeights f_heard56 f_heard64 f_tape fuel74 x1 x2 x3 x4 x5 x6 x7 c_told c_sumZ c_sumE c_stepY c_odd c_even c_taped c_outs f_seconds f_g f_bands f_sieve f_out = some res → W p l e (pq_rm 5 133) s m args below meth c H locs 0 0 Q (F0 m 74 ls []) := by
        intro fuel74
        induction fuel74 with
        | zero => intro x1 x2 x3 x4 x5 x6 x7 c_told c_sumZ c_sumE c_stepY c_odd c_even c_taped c_outs f_seconds f_g f_bands f_sieve f_out H locs hh ls hl hf; rw [fX7_unpack_b74] at hf; cases hf
        | succ fuel74 ih74 =>
          have J148 : ∀ (x1 : Int32) (x2 : Int32) (x3 : Int32) (x4 : Int32) (x5 : Int32) (x7 : Int32) (s0 : Int32) (c_told : Int32) (c_sumZ : Int32) (c_sumE : Int32) (c_stepY : Int32) (c_odd : Int32) (c_even : Int32) (c_taped : Int32) (c_outs : Int32) (f_seconds : Nat → Int32) (f_g : Nat → Int32) (f_bands : Nat → Int32) (f_sieve : Nat → Int32) (f_out : Nat → Int32) (H : Heap) (locs : List Loc), pq_H D A s (wX7_unpack cI th ad c_told c_sumZ c_sumE c_stepY c_odd c_even c_taped c_outs c_isFound f_kinds f_seconds f_g f_table2 f_table3 f_table4 f_table5 f_weight2 f_weight3 f_weight4 f_weight5 f_pace2 f_pace3 f_pace4 f_pace5 f_bands f_sieve f_coefficients f_roots f_ups f_highs f_lowWeights f_highWeights f_heard56 f_heard64 f_tape f_out) H locs → ∀ ls : Array Slot, lv_has ls 10 [(0, .ref th), (1, .int x1), (2, .int x2), (3, .int x3), (4, .int x4), (5, .int x5), (7, .int x7)] → fX7_unpack_b148 (fX7_unpack_b62  f_kinds f_table2 f_table3 f_table4 f_table5 f_weight2 f_weight3 f_weight4 f_weight5 f_pace2 f_pace3 f_pace4 f_pace5 f_coefficients f_roots f_ups f_highs f_lowWeights f_highWeights f_heard56 f_heard64 f_tape fuel62) (fX7_unpack_b74 (fX7_unpack_b62  f_kinds f_table2 f_table3 f_table4 f_table5 f_weight2 f_weight3 f_weight4 f_weight5 f_pace2 f_pace3 f_pace4 f_pace5 f_coefficients f_roots f_ups f_highs f_lowWeights f_highWeights f_heard56 f_heard64 f_tape fuel62) f_kinds f_table2 f_table3 f_table4 f_table5 f_weight2 f_weight3 f_weight4 f_weight5 f_pace2 f_pace3 f_pace4 f_pace5 f_coefficients f_roots f_ups f_highs f_lowWeights f_highWeights f_heard56 f_heard64 f_tape fuel74) f_kinds f_table2 f_table3 f_table4 f_table5 f_weight2 f_weight3 f_weight4 f_weight5 f_pace2 f_pace3 f_pace4 f_pace5 f_coefficients f_roots f_ups f_highs f_lowWeights f_highWeights f_heard56 f_heard64 f_tape x1 x2 x3 x4 x5 x7 s0 c_told c_sumZ c_sumE c_stepY c_odd c_even c_taped c_outs f_seconds f_g f_bands f_sieve f_out = some res → W p l e (pq_rm 5 133) s m args below meth c H locs 0 0 Q (F0 m 148 ls [.int s0]) := by
            intro x1 x2 x3 x4 x5 x7 s0 c_told c_sumZ c_sumE c_stepY c_odd c_even c_taped c_outs f_seconds f_g f_bands f_sieve f_out H locs hh ls hl hf
            rw [fX7_unpack_b148] at hf
            refine lv_istore (lv' := [(6, .int s0), (0, .ref th), (1, .int x1), (2, .int x2), (3, .int x3), (4, .int x4), (5, .int x5), (7, .int x7)]) hx hb dX7_unpack_148 hl (by decide) rfl (fun ls hl => ?_)
            obtain ⟨v52, e53⟩ : ∃ y : Int32, y = x7 + (1 : Int32) := ⟨_, rfl⟩
            refine lv_iinc (v := v52) (lv' := [(7, .int v52), (6, .int s0), (0, .ref th), (1, .int x1), (2, .int x2), (3, .int x3), (4, .int x4), (5, .int x5)]) hx hb dX7_unpack_150 hl (k := 7) rfl (by rw [e53]; rfl) (by decide) rfl (fun ls hl => ?_)
            have hf := pq_nmx hf v52 e53
            refine lv_goto (tgt := 74) hx hb dX7_unpack_153 (by decide) ?_
            exact ih74 x1 x2 x3 x4 x5 s0 v52 c_told c_sumZ c_sumE c_stepY c_odd c_even c_taped c_outs f_seconds f_g f_bands f_sieve f_out _ _ hh ls (lv_sub hl [2, 3, 4, 5, 6, 7, 1, 0] rfl) hf
          have J121 : ∀ (x1 : Int32) (x2 : Int32) (x3 : Int32) (x4 : Int32) (x5 : Int32) (x6 : Int32) (x7 : Int32) (s0 : Int32) (s1 : Int32) (c_told : Int32) (c_sumZ : Int32) (c_sumE : Int32) (c_stepY : Int32) (c_odd : Int32) (c_even : Int32) (c_taped : Int32) (c_outs : Int32) (f_seconds : Nat → Int32) (f_g : Nat → Int32) (f_bands : Nat → Int32) (f_sieve : Nat → Int32) (f_out : Nat → Int32) (H : Heap) (locs : List Loc), pq_H D A s (wX7_unpack cI th ad c_told c_sumZ c_sumE c_stepY c_odd c_even c_taped c_outs c_isFound f_kinds f_seconds f_g f_table2 f_table3 f_table4 f_table5 f_weight2 f_weight3 f_weight4 f_weight5 f_pace2 f_pace3 f_pace4 f_pace5 f_bands f_sieve f_coefficients f_roots f_ups f_highs f_lowWeights f_highWeights f_heard56 f_heard64 f_tape f_out) H locs → ∀ ls : Array Slot, lv_has ls 10 [(0, .ref th), (1, .int x1), (2, .int x2), (3, .int x3), (4, .int x4), (5, .int x5), (6, .int x6), (7, .int x7)] → fX7_unpack_b121 (fX7_unpack_b62  f_kinds f_table2 f_table3 f_table4 f_table5 f_weight2 f_weight3 f_weight4 f_weight5 f_pace2 f_pace3 f_pace4 f_pace5 f_coefficients f_roots f_ups f_highs f_lowWeights f_highWeights f_heard56 f_heard64 f_tape fuel62) (fX7_unpack_b74 (fX7_unpack_b62  f_kinds f_table2 f_table3 f_table4 f_table5 f_weight2 f_weight3 f_weight4 f_weight5 f_pace2 f_pace3 f_pace4 f_pace5 f_coefficients f_roots f_ups f_highs f_lowWeights f_highWeights f_heard56 f_heard64 f_tape fuel62) f_kinds f_table2 f_table3 f_table4 f_table5 f_weight2 f_weight3 f_weight4 f_weight5 f_pace2 f_pace3 f_pace4 f_pace5 f_coefficients f_roots f_ups f_highs f_lowWeights f_highWeights f_heard56 f_heard64 f_tape fuel74) f_kinds f_table2 f_table3 f_table4 f_table5 f_weight2 f_weight3 f_weight4 f_weight5 f_pace2 f_pace3 f_pace4 f_pace5 f_coefficients f_roots f_ups f_highs f_lowWeights f_highWeights f_heard56 f_heard64 f_tape x1 x2 x3 x4 x5 x6 x7 s0 s1 c_told c_sumZ c_sumE c_stepY c_odd c_even c_taped c_outs f_seconds f_g f_bands f_sieve f_out = some res → W p l e (pq_rm 5 133) s m args below meth c H locs 0 0 Q (F0 m 121 ls [.int s1, .int s0]) := by
            intro x1 x2 x3 x4 x5 x6 x7 s0 s1 c_told c_sumZ c_sumE c_stepY c_odd c_even c_taped c_outs f_seconds f_g f_bands f_sieve f_out H locs hh ls hl hf
            rw [fX7_unpack_b121] at hf
            refine lv_ishr hx hb dX7_unpack_121 ?_
            refine lv_iconst (v := (1 : Int32)) hx hb dX7_unpack_122 (by decide) ?_
            refine lv_iand hx hb dX7_unpack_123 ?_
            refine lv_topi (fun v49 e50 => ?_)
            have hf := pq_nmx hf v49 e50
            refine lv_istore (lv' := [(9, .int v49), (0, .ref th), (1, .int x1), (2, .int x2), (3, .int x3), (4, .int x4), (5, .int x5), (6, .int x6), (7, .int x7)]) hx hb dX7_unpack_124 hl (by decide) rfl (fun ls hl => ?_)
            refine lv_iload_n hx hb dX7_unpack_126 rfl (lv_at hl 3 rfl) ?_
            refine lv_if_eq (tgt := 140) hx hb dX7_unpack_127 (by decide) (fun h51 => ?_) (fun h51 => ?_)
            · have hf := pq_brt hf h51
              refine lv_iload hx hb dX7_unpack_140 (lv_at hl 7 rfl) ?_
              refine lv_iload hx hb dX7_unpack_142 (lv_at hl 0 rfl) ?_
              refine lv_iload hx hb dX7_unpack_144 (lv_at hl 8 rfl) ?_
              refine lv_ishl hx hb dX7_unpack_146 ?_
              refine lv_ior hx hb dX7_unpack_147 ?_
              exact J148 x1 x2 x3 x4 x5 x7 (x6 ||| (v49 <<< (x7 &&& 31))) c_told c_sumZ c_sumE c_stepY c_odd c_even c_taped c_outs f_seconds f_g f_bands f_sieve f_out _ _ hh ls (lv_sub hl [1, 2, 3, 4, 5, 6, 8] rfl) hf
            · have hf := pq_brf hf h51
              refine lv_iconst (v := (2 : Int32)) hx hb dX7_unpack_130 (by decide) ?_
              refine lv_iload hx hb dX7_unpack_131 (lv_at hl 7 rfl) ?_
              refine lv_imul hx hb dX7_unpack_133 ?_
              refine lv_iload hx hb dX7_unpack_134 (lv_at hl 0 rfl) ?_
              refine lv_iadd hx hb dX7_unpack_136 ?_
              refine lv_goto (tgt := 148) hx hb dX7_unpack_137 (by decide) ?_
              exact J148 x1 x2 x3 x4 x5 x7 (((2 : Int32) * x6) + v49) c_told c_sumZ c_sumE c_stepY c_odd c_even c_taped c_outs f_seconds f_g f_bands f_sieve f_out _ _ hh ls (lv_sub hl [1, 2, 3, 4, 5, 6, 8] rfl) hf
          intro x1 x2 x3 x4 x5 x6 x7 c_told c_sumZ c_sumE c_stepY c_odd c_even c_taped c_outs f_seconds f_g f_bands f_sieve f_out H locs hh ls hl hf
          rw [fX7_unpack_b74] at hf
          refine lv_iload hx hb dX7_unpack_74 (lv_at hl 7 rfl) ?_
          refine lv_iload hx hb dX7_unpack_76 (lv_at hl 4 rfl) ?_
          refine lv_icmp_ge (tgt := 156) hx hb dX7_unpack_78 (by decide) (fun h13 => ?_) (fun h13 => ?_)
          · have hf := pq_brt hf h13
            refine lv_aload_n hx hb dX7_unpack_156 rfl (lv_at hl 0 rfl) ?_
            refine lv_aload_n hx hb dX7_unpack_157 rfl (lv_at hl 0 rfl) ?_
            refine lv_iload_n hx hb dX7_unpack_158 rfl (lv_at hl 1 rfl) ?_
            refine lv_iload hx hb dX7_unpack_159 (lv_at hl 6 rfl) ?_
            obtain ⟨⟨r14, c15, c16, c17, c18, c19, f20, f21, f22, f23⟩, hu24, hf⟩ := pq_clx hf
            have hf := pq_nmx hf r14 rfl
            have hf := pq_nmx hf c15 rfl
            have hf := pq_nmx hf c16 rfl
            have hf := pq_nmx hf c17 rfl
            have hf := pq_nmx hf c18 rfl
            have hf := pq_nmx hf c19 rfl
            have hf := pq_nmx hf f20 rfl
            have hf := pq_nmx hf f21 rfl
            have hf := pq_nmx hf f22 rfl
            have hf := pq_nmx hf f23 rfl
            refine pq_cvI (n := 2) (As := [.int x1, .int x6]) C hh (qX7_hears l D cI cL th ad c_told c_sumZ c_sumE c_stepY c_odd c_even c_taped c_outs c_isFound f_kinds f_seconds f_g f_table2 f_table3 f_table4 f_table5 f_weight2 f_weight3 f_weight4 f_weight5 f_pace2 f_pace3 f_pace4 f_pace5 f_bands f_sieve f_coefficients f_roots f_ups f_highs f_lowWeights f_highWeights f_heard56 f_heard64 x1 x6 (r14, c15, c16, c17, c18, c19, f20, f21, f22, f23) hu24) (gvX7_hears hs (pq_m23 _ (List.mem_of_getElem? (i := 0) rfl))) rfl (by decide +kernel) ⟨Nat.le_of_ble_eq_true rfl, Nat.le_of_ble_eq_true rfl⟩ 0 6 rfl rfl rfl hl.1 rfl rfl (Nat.le_of_ble_eq_true rfl) dX7_unpack_161 ⟨Nat.zero_le _, Nat.zero_le _⟩ [0, 1, 2, 3, 4, 5, 6, 7, 8, 9, 10, 11, 12, 13, 14, 15, 16, 17, 18, 19, 20, 21, 22, 23, 24, 25] [26, 27] [2, 3, 4, 5, 6, 7, 8, 9, 10, 11, 12, 13, 14, 15, 16, 17, 18, 19, 20, 21, 22, 23, 24, 25, 26, 27, 0, 1] rfl rfl (by decide) (by decide) (by decide) rfl (fun H locs (hh : pq_H D A s (wX7_unpack cI th ad c_told c15 c16 c17 c18 c19 c_taped c_outs c_isFound f_kinds f20 f21 f_table2 f_table3 f_table4 f_table5 f_weight2 f_weight3 f_weight4 f_weight5 f_pace2 f_pace3 f_pace4 f_pace5 f22 f23 f_coefficients f_roots f_ups f_highs f_lowWeights f_highWeights f_heard56 f_heard64 f_tape f_out) H locs) => ?_)
            obtain ⟨⟨c26, f27⟩, hu28, hf⟩ := pq_clx hf
            have hf := pq_nmx hf c26 rfl
            have hf := pq_nmx hf f27 rfl
            refine pq_cvV (n := 1) (As := [.int r14]) C hh (qX7_sample l D cI cL th ad c_told c15 c16 c17 c18 c19 c_taped c_outs c_isFound f_out r14 (c26, f27) hu28) (gvX7_sample hs (pq_m30 _ (List.mem_of_getElem? (i := 7) rfl))) rfl (by decide +kernel) ⟨Nat.le_of_ble_eq_true rfl, Nat.le_of_ble_eq_true rfl⟩ 0 6 rfl rfl rfl hl.1 rfl rfl (Nat.le_of_ble_eq_true rfl) dX7_unpack_164 ⟨Nat.zero_le _, Nat.zero_le _⟩ [0, 27] [1, 2, 3, 4, 5, 6, 7, 8, 9, 10, 11, 12, 13, 14, 15, 16, 17, 18, 19, 20, 21, 22, 23, 24, 25, 26] [26, 0, 1, 2, 3, 4, 5, 6, 7, 8, 9, 10, 11, 12, 13, 14, 15, 16, 17, 18, 19, 20, 21, 22, 23, 24, 25, 27] rfl rfl (by decide) (by decide) (by decide) rfl (fun H locs (hh : pq_H D A s (wX7_unpack cI th ad c_told c15 c16 c17 c18 c19 c_taped c26 c_isFound f_kinds f20 f21 f_table2 f_table3 f_table4 f_table5 f_weight2 f_weight3 f_weight4 f_weight5 f_pace2 f_pace3 f_pace4 f_pace5 f22 f23 f_coefficients f_roots f_ups f_highs f_lowWeights f_highWeights f_heard56 f_heard64 f_tape f27) H locs) => ?_)
            refine lv_aload_n hx hb dX7_unpack_167 rfl (lv_at hl 0 rfl) ?_
            refine lv_iload_n hx hb dX7_unpack_168 rfl (lv_at hl 1 rfl) ?_
            obtain ⟨r30, hu31, hf⟩ := pq_clx hf
            refine pq_cvI (n := 1) (As := [.int x1]) C hh (qX7_isPaired l D cI cL th ad c_told c15 c16 c17 c18 c19 c_taped c26 c_isFound f_kinds x1 r30 hu31) (gvX7_isPaired hs (pq_m15 _ (List.mem_of_getElem? (i := 20) rfl))) rfl (by decide +kernel) ⟨Nat.le_of_ble_eq_true rfl, Nat.le_of_ble_eq_true rfl⟩ 0 6 rfl rfl rfl hl.1 rfl rfl (Nat.le_of_ble_eq_true rfl) dX7_unpack_169 ⟨Nat.zero_le _, Nat.zero_le _⟩ [0, 1] [2, 3, 4, 5, 6, 7, 8, 9, 10, 11, 12, 13, 14, 15, 16, 17, 18, 19, 20, 21, 22, 23, 24, 25, 26, 27] [26, 27, 0, 1, 2, 3, 4, 5, 6, 7, 8, 9, 10, 11, 12, 13, 14, 15, 16, 17, 18, 19, 20, 21, 22, 23, 24, 25] rfl rfl (by decide) (by decide) (by decide) rfl (fun H locs (hh : pq_H D A s (wX7_unpack cI th ad c_told c15 c16 c17 c18 c19 c_taped c26 c_isFound f_kinds f20 f21 f_table2 f_table3 f_table4 f_table5 f_weight2 f_weight3 f_weight4 f_weight5 f_pace2 f_pace3 f_pace4 f_pace5 f22 f23 f_coefficients f_roots f_ups f_highs f_lowWeights f_highWeights f_heard56 f_heard64 f_tape f27) H locs) => ?_)
            refine lv_if_eq (tgt := 185) hx hb dX7_unpack_172 (by decide) (fun h32 => ?_) (fun h32 => ?_)
            · have hf := pq_brt hf h32
              exact J185 x1 x2 x3 x4 x5 c_told c15 c16 c17 c18 c19 c_taped c26 f20 f21 f22 f23 f27 _ _ hh ls (lv_sub hl [0, 1, 2, 3, 4, 5] rfl) hf
            · have hf := pq_brf hf h32
              refine lv_aload_n hx hb dX7_unpack_175 rfl (lv_at hl 0 rfl) ?_
              refine lv_aload_n hx hb dX7_unpack_176 rfl (lv_at hl 0 rfl) ?_
              refine pq_get C hh i7 0 6 rfl rfl 2 (by decide) kf14 rfl rfl dX7_unpack_177 ?_
              refine lv_iload_n hx hb dX7_unpack_180 rfl (lv_at hl 1 rfl) ?_
              obtain ⟨h33, hf⟩ := pq_rdx hf
              refine pq_iald C hh 2 rfl h33 dX7_unpack_181 (fun v34 e35 => ?_)
              have hf := hf v34 e35
              obtain ⟨⟨c36, f37⟩, hu38, hf⟩ := pq_clx hf
              have hf := pq_nmx hf c36 rfl
              have hf := pq_nmx hf f37 rfl
              refine pq_cvV (n := 1) (As := [.int v34]) C hh (qX7_sample l D cI cL th ad c_told c15 c16 c17 c18 c19 c_taped c26 c_isFound f27 v34 (c36, f37) hu38) (gvX7_sample hs (pq_m30 _ (List.mem_of_getElem? (i := 7) rfl))) rfl (by decide +kernel) ⟨Nat.le_of_ble_eq_true rfl, Nat.le_of_ble_eq_true rfl⟩ 0 6 rfl rfl rfl hl.1 rfl rfl (Nat.le_of_ble_eq_true rfl) dX7_unpack_182 ⟨Nat.zero_le _, Nat.zero_le _⟩ [0, 27] [1, 2, 3, 4, 5, 6, 7, 8, 9, 10, 11, 12, 13, 14, 15, 16, 17, 18, 19, 20, 21, 22, 23, 24, 25, 26] [26, 0, 1, 2, 3, 4, 5, 6, 7, 8, 9, 10, 11, 12, 13, 14, 15, 16, 17, 18, 19, 20, 21, 22, 23, 24, 25, 27] rfl rfl (by decide) (by decide) (by decide) rfl (fun H locs (hh : pq_H D A s (wX7_unpack cI th ad c_told c15 c16 c17 c18 c19 c_taped c36 c_isFound f_kinds f20 f21 f_table2 f_table3 f_table4 f_table5 f_weight2 f_weight3 f_weight4 f_weight5 f_pace2 f_pace3 f_pace4 f_pace5 f22 f23 f_coefficients f_roots f_ups f_highs f_lowWeights f_highWeights f_heard56 f_heard64 f_tape f37) H locs) => ?_)
              exact J185 x1 x2 x3 x4 x5 c_told c15 c16 c17 c18 c19 c_taped c36 f20 f21 f22 f23 f37 _ _ hh ls (lv_sub hl [0, 1, 2, 3, 4, 5] rfl) hf
          · have hf := pq_brf hf h13
            refine lv_iload hx hb dX7_unpack_81 (lv_at hl 4 rfl) ?_
            refine lv_iload hx hb dX7_unpack_83 (lv_at hl 5 rfl) ?_
            refine lv_imul hx hb dX7_unpack_85 ?_
            refine lv_iload hx hb dX7_unpack_86 (lv_at hl 7 rfl) ?_
            refine lv_iadd hx hb dX7_unpack_88 ?_
            refine lv_topi (fun v40 e41 => ?_)
            have hf := pq_nmx hf v40 e41
            refine lv_istore (lv' := [(8, .int v40), (0, .ref th), (1, .int x1), (2, .int x2), (3, .int x3), (4, .int x4), (5, .int x5), (6, .int x6), (7, .int x7)]) hx hb dX7_unpack_89 hl (by decide) rfl (fun ls hl => ?_)
            refine lv_aload_n hx hb dX7_unpack_91 rfl (lv_at hl 1 rfl) ?_
            refine pq_get C hh i7 0 6 rfl rfl 36 (by decide) kf102 rfl rfl dX7_unpack_92 ?_
            refine lv_iload hx hb dX7_unpack_95 (lv_at hl 0 rfl) ?_
            refine lv_bipush (v := (8 : Int32)) hx hb dX7_unpack_97 (by decide) ?_
            obtain ⟨h42, hf⟩ := pq_nzx hf
            refine lv_idiv hx hb dX7_unpack_99 h42 ?_
            obtain ⟨h43, hf⟩ := pq_rdx hf
            refine pq_iald C hh 26 rfl h43 dX7_unpack_100 (fun v44 e45 => ?_)
            have hf := hf v44 e45
            refine lv_iload_n hx hb dX7_unpack_101 rfl (lv_at hl 3 rfl) ?_
            refine lv_if_eq (tgt := 116) hx hb dX7_unpack_102 (by decide) (fun h46 => ?_) (fun h46 => ?_)
            · have hf := pq_brt hf h46
              refine lv_iload hx hb dX7_unpack_116 (lv_at hl 0 rfl) ?_
              refine lv_bipush (v := (8 : Int32)) hx hb dX7_unpack_118 (by decide) ?_
              obtain ⟨h47, hf⟩ := pq_nzx hf
              refine lv_irem hx hb dX7_unpack_120 h47 ?_
              exact J121 x1 x2 x3 x4 x5 x6 x7 v44 (v40 - v40 / (8 : Int32) * (8 : Int32)) c_told c_sumZ c_sumE c_stepY c_odd c_even c_taped c_outs f_seconds f_g f_bands f_sieve f_out _ _ hh ls (lv_sub hl [1, 2, 3, 4, 5, 6, 7, 8] rfl) hf
            · have hf := pq_brf hf h46
              refine lv_bipush (v := (7 : Int32)) hx hb dX7_unpack_105 (by decide) ?_
              refine lv_iload hx hb dX7_unpack_107 (lv_at hl 0 rfl) ?_
              refine lv_bipush (v := (8 : Int32)) hx hb dX7_unpack_109 (by decide) ?_
              obtain ⟨h48, hf⟩ := pq_nzx hf
              refine lv_irem hx hb dX7_unpack_111 h48 ?_
              refine lv_isub hx hb dX7_unpack_112 ?_
              refine lv_goto (tgt := 121) hx hb dX7_unpack_113 (by decide) ?_
              exact J121 x1 x2 x3 x4 x5 x6 x7 v44 ((7 : Int32) - (v40 - v40 / (8 : Int32) * (8 : Int32))) c_told c_sumZ c_sumE c_stepY c_odd c_even c_taped c_outs f_seconds f_g f_bands f_sieve f_out _ _ hh ls (lv_sub hl [1, 2, 3, 4, 5, 6, 7, 8] rfl) hf
      intro x1 x2 x3 x4 x5 c_told c_sumZ c_sumE c_stepY c_odd c_even c_taped c_outs f_seconds f_g f_bands f_sieve f_out H locs hh ls hl hf
      rw [fX7_unpack_b62] at hf
      refine lv_iload hx hb dX7_unpack_62 (lv_at hl 5 rfl) ?_
      refine lv_iload_n hx hb dX7_unpack_64 rfl (lv_at hl 3 rfl) ?_
      refine lv_icmp_ge (tgt := 191) hx hb dX7_unpack_65 (by decide) (fun h12 => ?_) (fun h12 => ?_)
      · have hf := pq_brt hf h12
        refine lv_aload_n hx hb dX7_unpack_191 rfl (lv_at hl 0 rfl) ?_
        refine lv_iconst (v := (0 : Int32)) hx hb dX7_unpack_192 (by decide) ?_
        refine pq_put (ty := .int) (v := .int (0 : Int32)) C hh i7 tyX7 tyX7_ok nmX7 0 6 rfl rfl 37 (by decide) kf254 rfl rfl (by decide +kernel) rfl rfl (Nat.le_of_ble_eq_true rfl) dX7_unpack_193 (fun H locs (hh : pq_H D A s (wX7_unpack cI th ad c_told c_sumZ c_sumE c_stepY c_odd c_even (0 : Int32) c_outs c_isFound f_kinds f_seconds f_g f_table2 f_table3 f_table4 f_table5 f_weight2 f_weight3 f_weight4 f_weight5 f_pace2 f_pace3 f_pace4 f_pace5 f_bands f_sieve f_coefficients f_roots f_ups f_highs f_lowWeights f_highWeights f_heard56 f_heard64 f_tape f_out) H locs) => ?_)
        refine lv_aload_n hx hb dX7_unpack_196 rfl (lv_at hl 0 rfl) ?_
        refine pq_get C hh i7 0 6 rfl rfl 39 (by decide) kf260 rfl rfl dX7_unpack_197 ?_
        obtain rfl := Option.some.inj hf
        exact hret _ _ _ ls hh dX7_unpack_200 rfl
      · have hf := pq_brf hf h12
        refine lv_iconst (v := (0 : Int32)) hx hb dX7_unpack_68 (by decide) ?_
        refine lv_istore (lv' := [(6, .int (0 : Int32)), (0, .ref th), (1, .int x1), (2, .int x2), (3, .int x3), (4, .int x4), (5, .int x5)]) hx hb dX7_unpack_69 hl (by decide) rfl (fun ls hl => ?_)
        refine lv_iconst (v := (0 : Int32)) hx hb dX7_unpack_71 (by decide) ?_
        refine lv_istore (lv' := [(7, .int (0 : Int32)), (6, .int (0 : Int32)), (0, .ref th), (1, .int x1), (2, .int x2), (3, .int x3), (4, .int x4), (5, .int x5)]) hx hb dX7_unpack_72 hl (by decide) rfl (fun ls hl => ?_)
        exact J74 1100 x1 x2 x3 x4 x5 (0 : Int32) (0 : Int32) c_told c_sumZ c_sumE c_stepY c_odd c_even c_taped c_outs f_seconds f_g f_bands f_sieve f_out _ _ hh ls (lv_sub hl [2, 3, 4, 5, 6, 7, 1, 0] rfl) hf
  rw [fX7_unpack] at hf
  refine lv_aload_n hx hb dX7_unpack_0 rfl (lv_at hl 0 rfl) ?_
  refine lv_iconst (v := (0 : Int32)) hx hb dX7_unpack_1 (by decide) ?_
  refine pq_put (ty := .int) (v := .int (0 : Int32)) C hh i7 tyX7 tyX7_ok nmX7 0 6 rfl rfl 0 (by decide) kf114 rfl rfl (by decide +kernel) rfl rfl (Nat.le_of_ble_eq_true rfl) dX7_unpack_2 (fun H locs (hh : pq_H D A s (wX7_unpack cI th ad (0 : Int32) c_sumZ c_sumE c_stepY c_odd c_even c_taped c_outs c_isFound f_kinds f_seconds f_g f_table2 f_table3 f_table4 f_table5 f_weight2 f_weight3 f_weight4 f_weight5 f_pace2 f_pace3 f_pace4 f_pace5 f_bands f_sieve f_coefficients f_roots f_ups f_highs f_lowWeights f_highWeights f_heard56 f_heard64 f_tape f_out) H locs) => ?_)
  refine lv_aload_n hx hb dX7_unpack_5 rfl (lv_at hl 0 rfl) ?_
  refine lv_iload_n hx hb dX7_unpack_6 rfl (lv_at hl 1 rfl) ?_
  obtain ⟨r1, hu2, hf⟩ := pq_clx hf
  refine pq_cvI (n := 1) (As := [.int a1]) C hh (qX7_isOpen l D cI cL th ad (0 : Int32) c_sumZ c_sumE c_stepY c_odd c_even c_taped c_outs c_isFound f_kinds a1 r1 hu2) (gvX7_isOpen hs (pq_m15 _ (List.mem_of_getElem? (i := 16) rfl))) rfl (by decide +kernel) ⟨Nat.le_of_ble_eq_true rfl, Nat.le_of_ble_eq_true rfl⟩ 0 6 rfl rfl rfl hl.1 rfl rfl (Nat.le_of_ble_eq_true rfl) dX7_unpack_7 ⟨Nat.zero_le _, Nat.zero_le _⟩ [0, 1] [2, 3, 4, 5, 6, 7, 8, 9, 10, 11, 12, 13, 14, 15, 16, 17, 18, 19, 20, 21, 22, 23, 24, 25, 26, 27] [26, 27, 0, 1, 2, 3, 4, 5, 6, 7, 8, 9, 10, 11, 12, 13, 14, 15, 16, 17, 18, 19, 20, 21, 22, 23, 24, 25] rfl rfl (by decide) (by decide) (by decide) rfl (fun H locs (hh : pq_H D A s (wX7_unpack cI th ad (0 : Int32) c_sumZ c_sumE c_stepY c_odd c_even c_taped c_outs c_isFound f_kinds f_seconds f_g f_table2 f_table3 f_table4 f_table5 f_weight2 f_weight3 f_weight4 f_weight5 f_pace2 f_pace3 f_pace4 f_pace5 f_bands f_sieve f_coefficients f_roots f_ups f_highs f_lowWeights f_highWeights f_heard56 f_heard64 f_tape f_out) H locs) => ?_)
  refine lv_if_eq (tgt := 44) hx hb dX7_unpack_10 (by decide) (fun h3 => ?_) (fun h3 => ?_)
  · have hf := pq_brt hf h3
    refine lv_ldc (v := (-100000 : Int32)) hx hb hown kc9 dX7_unpack_44 ?_
    obtain rfl := Option.some.inj hf
    exact hret _ _ _ ls hh dX7_unpack_46 rfl
  · have hf := pq_brf hf h3
    refine lv_iload_n hx hb dX7_unpack_13 rfl (lv_at hl 3 rfl) ?_
    refine lv_if_lt (tgt := 44) hx hb dX7_unpack_14 (by decide) (fun h4 => ?_) (fun h4 => ?_)
    · have hf := pq_brt hf h4
      refine lv_ldc (v := (-100000 : Int32)) hx hb hown kc9 dX7_unpack_44 ?_
      obtain rfl := Option.some.inj hf
      exact hret _ _ _ ls hh dX7_unpack_46 rfl
    · have hf := pq_brf hf h4
      refine lv_iload_n hx hb dX7_unpack_17 rfl (lv_at hl 3 rfl) ?_
      refine lv_sipush (v := (250 : Int32)) hx hb dX7_unpack_18 (by decide) ?_
      refine lv_icmp_gt (tgt := 44) hx hb dX7_unpack_21 (by decide) (fun h5 => ?_) (fun h5 => ?_)
      · have hf := pq_brt hf h5
        refine lv_ldc (v := (-100000 : Int32)) hx hb hown kc9 dX7_unpack_44 ?_
        obtain rfl := Option.some.inj hf
        exact hret _ _ _ ls hh dX7_unpack_46 rfl
      · have hf := pq_brf hf h5
        refine lv_aload_n hx hb dX7_unpack_24 rfl (lv_at hl 0 rfl) ?_
        refine pq_get C hh i7 0 6 rfl rfl 37 (by decide) kf254 rfl rfl dX7_unpack_25 ?_
        refine lv_iload_n hx hb dX7_unpack_28 rfl (lv_at hl 3 rfl) ?_
        refine lv_aload_n hx hb dX7_unpack_29 rfl (lv_at hl 0 rfl) ?_
        refine lv_iload_n hx hb dX7_unpack_30 rfl (lv_at hl 1 rfl) ?_
        obtain ⟨r6, hu7, hf⟩ := pq_clx hf
        refine pq_cvI (n := 1) (As := [.int a1]) C hh (qX7_bitsOf l D cI cL th ad (0 : Int32) c_sumZ c_sumE c_stepY c_odd c_even c_taped c_outs c_isFound f_kinds a1 r6 hu7) (gvX7_bitsOf hs (pq_m22 _ (List.mem_of_getElem? (i := 20) rfl))) rfl (by decide +kernel) ⟨Nat.le_of_ble_eq_true rfl, Nat.le_of_ble_eq_true rfl⟩ 0 6 rfl rfl rfl hl.1 rfl rfl (Nat.le_of_ble_eq_true rfl) dX7_unpack_31 ⟨Nat.zero_le _, Nat.zero_le _⟩ [0, 1] [2, 3, 4, 5, 6, 7, 8, 9, 10, 11, 12, 13, 14, 15, 16, 17, 18, 19, 20, 21, 22, 23, 24, 25, 26, 27] [26, 27, 0, 1, 2, 3, 4, 5, 6, 7, 8, 9, 10, 11, 12, 13, 14, 15, 16, 17, 18, 19, 20, 21, 22, 23, 24, 25] rfl rfl (by decide) (by decide) (by decide) rfl (fun H locs (hh : pq_H D A s (wX7_unpack cI th ad (0 : Int32) c_sumZ c_sumE c_stepY c_odd c_even c_taped c_outs c_isFound f_kinds f_seconds f_g f_table2 f_table3 f_table4 f_table5 f_weight2 f_weight3 f_weight4 f_weight5 f_pace2 f_pace3 f_pace4 f_pace5 f_bands f_sieve f_coefficients f_roots f_ups f_highs f_lowWeights f_highWeights f_heard56 f_heard64 f_tape f_out) H locs) => ?_)
        refine lv_imul hx hb dX7_unpack_34 ?_
        refine lv_bipush (v := (7 : Int32)) hx hb dX7_unpack_35 (by decide) ?_
        refine lv_iadd hx hb dX7_unpack_37 ?_
        refine lv_bipush (v := (8 : Int32)) hx hb dX7_unpack_38 (by decide) ?_
        obtain ⟨h8, hf⟩ := pq_nzx hf
        refine lv_idiv hx hb dX7_unpack_40 h8 ?_
        refine lv_icmp_eq (tgt := 47) hx hb dX7_unpack_41 (by decide) (fun h9 => ?_) (fun h9 => ?_)
        · have hf := pq_brt hf h9
          refine lv_aload_n hx hb dX7_unpack_47 rfl (lv_at hl 0 rfl) ?_
          refine lv_iload_n hx hb dX7_unpack_48 rfl (lv_at hl 1 rfl) ?_
          obtain ⟨r10, hu11, hf⟩ := pq_clx hf
          refine pq_cvI (n := 1) (As := [.int a1]) C hh (qX7_bitsOf l D cI cL th ad (0 : Int32) c_sumZ c_sumE c_stepY c_odd c_even c_taped c_outs c_isFound f_kinds a1 r10 hu11) (gvX7_bitsOf hs (pq_m22 _ (List.mem_of_getElem? (i := 20) rfl))) rfl (by decide +kernel) ⟨Nat.le_of_ble_eq_true rfl, Nat.le_of_ble_eq_true rfl⟩ 0 6 rfl rfl rfl hl.1 rfl rfl (Nat.le_of_ble_eq_true rfl) dX7_unpack_49 ⟨Nat.zero_le _, Nat.zero_le _⟩ [0, 1] [2, 3, 4, 5, 6, 7, 8, 9, 10, 11, 12, 13, 14, 15, 16, 17, 18, 19, 20, 21, 22, 23, 24, 25, 26, 27] [26, 27, 0, 1, 2, 3, 4, 5, 6, 7, 8, 9, 10, 11, 12, 13, 14, 15, 16, 17, 18, 19, 20, 21, 22, 23, 24, 25] rfl rfl (by decide) (by decide) (by decide) rfl (fun H locs (hh : pq_H D A s (wX7_unpack cI th ad (0 : Int32) c_sumZ c_sumE c_stepY c_odd c_even c_taped c_outs c_isFound f_kinds f_seconds f_g f_table2 f_table3 f_table4 f_table5 f_weight2 f_weight3 f_weight4 f_weight5 f_pace2 f_pace3 f_pace4 f_pace5 f_bands f_sieve f_coefficients f_roots f_ups f_highs f_lowWeights f_highWeights f_heard56 f_heard64 f_tape f_out) H locs) => ?_)
          refine lv_istore (lv' := [(4, .int r10), (0, .ref th), (1, .int a1), (2, .int a2), (3, .int a3)]) hx hb dX7_unpack_52 hl (by decide) rfl (fun ls hl => ?_)
          refine lv_aload_n hx hb dX7_unpack_54 rfl (lv_at hl 1 rfl) ?_
          refine lv_iconst (v := (0 : Int32)) hx hb dX7_unpack_55 (by decide) ?_
          refine pq_put (ty := .int) (v := .int (0 : Int32)) C hh i7 tyX7 tyX7_ok nmX7 0 6 rfl rfl 39 (by decide) kf260 rfl rfl (by decide +kernel) rfl rfl (Nat.le_of_ble_eq_true rfl) dX7_unpack_56 (fun H locs (hh : pq_H D A s (wX7_unpack cI th ad (0 : Int32) c_sumZ c_sumE c_stepY c_odd c_even c_taped (0 : Int32) c_isFound f_kinds f_seconds f_g f_table2 f_table3 f_table4 f_table5 f_weight2 f_weight3 f_weight4 f_weight5 f_pace2 f_pace3 f_pace4 f_pace5 f_bands f_sieve f_coefficients f_roots f_ups f_highs f_lowWeights f_highWeights f_heard56 f_heard64 f_tape f_out) H locs) => ?_)
          refine lv_iconst (v := (0 : Int32)) hx hb dX7_unpack_59 (by decide) ?_
          refine lv_istore (lv' := [(5, .int (0 : Int32)), (4, .int r10), (0, .ref th), (1, .int a1), (2, .int a2), (3, .int a3)]) hx hb dX7_unpack_60 hl (by decide) rfl (fun ls hl => ?_)
          exact J62 1100 a1 a2 a3 r10 (0 : Int32) (0 : Int32) c_sumZ c_sumE c_stepY c_odd c_even c_taped (0 : Int32) f_seconds f_g f_bands f_sieve f_out _ _ hh ls (lv_sub hl [2, 3, 4, 5, 1, 0] rfl) hf
        · have hf := pq_brf hf h9
          refine lv_ldc (v := (-100000 : Int32)) hx hb hown kc9 dX7_unpack_44 ?_
          obtain rfl := Option.some.inj hf
          exact hret _ _ _ ls hh dX7_unpack_46 rfl
