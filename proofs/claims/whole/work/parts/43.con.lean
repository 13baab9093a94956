set_option maxHeartbeats 4000000 in
set_option maxRecDepth 100000 in
theorem qX7_says722 (l : Launch) (D : va_G) (cI cL : ClassId) (th : Nat) (ad : Nat → Nat) (c_told : Int32) (c_sumZ : Int32) (c_sumE : Int32) (c_stepY : Int32) (c_odd : Int32) (c_even : Int32) (c_taped : Int32) (c_outs : Int32) (c_isFound : Int32) (f_bands : Nat → Int32) (f_sieve : Nat → Int32) (f_coefficients : Nat → Int32) (f_steps : Nat → Int32) (f_roots : Nat → Int32) (f_ups : Nat → Int32) (f_highs : Nat → Int32) (f_lowWeights : Nat → Int32) (f_highWeights : Nat → Int32) (a1 : Int32) (a2 : Int32) (a3 : Int32) (res : Int32 × Int32 × Int32 × (Nat → Int32) × (Nat → Int32)) (hf : fX7_says722 a1 a2 a3 f_coefficients f_steps f_roots f_ups f_highs f_lowWeights f_highWeights c_odd c_even f_bands f_sieve = some res) : pq_CI l yX7_says722 qsX7_says722 3 83 D cI cL [.ref th, .int a1, .int a2, .int a3] (wX7_says722 cI th ad c_told c_sumZ c_sumE c_stepY c_odd c_even c_taped c_outs c_isFound f_bands f_sieve f_coefficients f_steps f_roots f_ups f_highs f_lowWeights f_highWeights) (wX7_says722 cI th ad c_told c_sumZ c_sumE c_stepY res.2.1 res.2.2.1 c_taped c_outs c_isFound res.2.2.2.1 res.2.2.2.2 f_coefficients f_steps f_roots f_ups f_highs f_lowWeights f_highWeights) res.1 := by
  refine pq_mkI (cc := cX7_says722) (maxL := 13) (RT := .int) (by decide) rfl (Nat.le_of_ble_eq_true rfl) ?_
  intro p e s m args below meth c Q A C hh hret ls hl
  have hx := C.1
  have hb := C.2.1
  have hml := C.2.2.1
  have hown : s.vm.findClass RX7 = some m.cls := C.2.2.2.1
  have hs : ∀ w ∈ wsL_law, w ∈ qsX7_says722 := fun _ h => List.mem_cons_of_mem _ h
  have htw : ∀ w ∈ wsL_law, w.before args s = true := fun w h => C.2.2.2.2.1 w (hs w h)
  have hl : lv_has ls 13 [(0, .ref th), (1, .int a1), (2, .int a2), (3, .int a3)] := hl
  have i7 : ∀ w ∈ wsX70, w ∈ qsX7_says722 := fun w h => hs w (pq_i7 w h)
  have kf185 := htw (.fieldLink RX7 185 "VoiceDeskModel" "odd" "I") (pq_m20 _ (List.mem_of_getElem? (i := 4) rfl))
  have kf188 := htw (.fieldLink RX7 188 "VoiceDeskModel" "even" "I") (pq_m20 _ (List.mem_of_getElem? (i := 3) rfl))
  have kf69 := htw (.fieldLink RX7 69 "VoiceDeskModel" "bands" "[I") (pq_m4 _ (List.mem_of_getElem? (i := 17) rfl))
  have kf78 := htw (.fieldLink RX7 78 "VoiceDeskModel" "steps" "[I") (pq_m4 _ (List.mem_of_getElem? (i := 20) rfl))
  have J241 : ∀ (x1 : Int32) (x8 : Int32) (s0 : Int32) (c_odd : Int32) (c_even : Int32) (f_bands : Nat → Int32) (f_sieve : Nat → Int32) (H : Heap) (locs : List Loc), pq_H D A s (wX7_says722 cI th ad c_told c_sumZ c_sumE c_stepY c_odd c_even c_taped c_outs c_isFound f_bands f_sieve f_coefficients f_steps f_roots f_ups f_highs f_lowWeights f_highWeights) H locs → ∀ ls : Array Slot, lv_has ls 13 [(0, .ref th), (1, .int x1), (8, .int x8)] → fX7_says722_b241  f_coefficients f_steps f_roots f_ups f_highs f_lowWeights f_highWeights x1 x8 s0 c_odd c_even f_bands f_sieve = some res → W p l e (pq_rm 3 83) s m args below meth c H locs 0 0 Q (F0 m 241 ls [.int s0]) := by
    intro x1 x8 s0 c_odd c_even f_bands f_sieve H locs hh ls hl hf
    rw [fX7_says722_b241] at hf
    refine lv_istore (lv' := [(12, .int s0), (0, .ref th), (1, .int x1), (8, .int x8)]) hx hb dX7_says722_241 hl (by decide) rfl (fun ls hl => ?_)
    refine lv_aload_n hx hb dX7_says722_243 rfl (lv_at hl 1 rfl) ?_
    refine lv_iload_n hx hb dX7_says722_244 rfl (lv_at hl 2 rfl) ?_
    refine lv_iload hx hb dX7_says722_245 (lv_at hl 3 rfl) ?_
    refine lv_iload hx hb dX7_says722_247 (lv_at hl 0 rfl) ?_
    obtain ⟨f39, hu40, hf⟩ := pq_clx hf
    refine pq_cvV (n := 3) (As := [.int x1, .int x8, .int s0]) C hh (qX7_both l D cI cL th ad c_told c_sumZ c_sumE c_stepY c_odd c_even c_taped c_outs c_isFound f_bands f_roots f_ups f_highs f_lowWeights f_highWeights x1 x8 s0 f39 hu40) (gvX7_both hs (pq_m20 _ (List.mem_of_getElem? (i := 9) rfl))) rfl (by decide +kernel) ⟨Nat.le_of_ble_eq_true rfl, Nat.le_of_ble_eq_true rfl⟩ 0 6 rfl rfl rfl hl.1 rfl rfl (Nat.le_of_ble_eq_true rfl) dX7_says722_249 ⟨Nat.zero_le _, Nat.zero_le _⟩ [0, 1, 5, 6, 7, 8, 9] [2, 3, 4] [3, 4, 0, 1, 2, 5, 6, 7, 8, 9] rfl rfl (by decide) (by decide) (by decide) rfl (fun H locs (hh : pq_H D A s (wX7_says722 cI th ad c_told c_sumZ c_sumE c_stepY c_odd c_even c_taped c_outs c_isFound f39 f_sieve f_coefficients f_steps f_roots f_ups f_highs f_lowWeights f_highWeights) H locs) => ?_)
    refine lv_bipush (v := (64 : Int32)) hx hb dX7_says722_252 (by decide) ?_
    refine lv_iload hx hb dX7_says722_254 (lv_at hl 0 rfl) ?_
    refine lv_imul hx hb dX7_says722_256 ?_
    refine lv_iload hx hb dX7_says722_257 (lv_at hl 3 rfl) ?_
    refine lv_iadd hx hb dX7_says722_259 ?_
    obtain rfl := Option.some.inj hf
    exact hret _ _ _ ls hh dX7_says722_260 rfl
  have J211 : ∀ (x1 : Int32) (x8 : Int32) (x9 : Int32) (s0 : Int32) (c_odd : Int32) (c_even : Int32) (f_bands : Nat → Int32) (f_sieve : Nat → Int32) (H : Heap) (locs : List Loc), pq_H D A s (wX7_says722 cI th ad c_told c_sumZ c_sumE c_stepY c_odd c_even c_taped c_outs c_isFound f_bands f_sieve f_coefficients f_steps f_roots f_ups f_highs f_lowWeights f_highWeights) H locs → ∀ ls : Array Slot, lv_has ls 13 [(0, .ref th), (1, .int x1), (8, .int x8), (9, .int x9)] → fX7_says722_b211  f_coefficients f_steps f_roots f_ups f_highs f_lowWeights f_highWeights x1 x8 x9 s0 c_odd c_even f_bands f_sieve = some res → W p l e (pq_rm 3 83) s m args below meth c H locs 0 0 Q (F0 m 211 ls [.int s0]) := by
    intro x1 x8 x9 s0 c_odd c_even f_bands f_sieve H locs hh ls hl hf
    rw [fX7_says722_b211] at hf
    refine lv_istore (lv' := [(11, .int s0), (0, .ref th), (1, .int x1), (8, .int x8), (9, .int x9)]) hx hb dX7_says722_211 hl (by decide) rfl (fun ls hl => ?_)
    refine lv_iload hx hb dX7_says722_213 (lv_at hl 4 rfl) ?_
    refine lv_if_ge (tgt := 231) hx hb dX7_says722_215 (by decide) (fun h36 => ?_) (fun h36 => ?_)
    · have hf := pq_brt hf h36
      refine lv_iload hx hb dX7_says722_231 (lv_at hl 0 rfl) ?_
      refine lv_if_eq (tgt := 240) hx hb dX7_says722_233 (by decide) (fun h37 => ?_) (fun h37 => ?_)
      · have hf := pq_brt hf h37
        refine lv_iconst (v := (2 : Int32)) hx hb dX7_says722_240 (by decide) ?_
        exact J241 x1 x8 (2 : Int32) c_odd c_even f_bands f_sieve _ _ hh ls (lv_sub hl [1, 2, 3] rfl) hf
      · have hf := pq_brf hf h37
        refine lv_iconst (v := (3 : Int32)) hx hb dX7_says722_236 (by decide) ?_
        refine lv_goto (tgt := 241) hx hb dX7_says722_237 (by decide) ?_
        exact J241 x1 x8 (3 : Int32) c_odd c_even f_bands f_sieve _ _ hh ls (lv_sub hl [1, 2, 3] rfl) hf
    · have hf := pq_brf hf h36
      refine lv_iload hx hb dX7_says722_218 (lv_at hl 0 rfl) ?_
      refine lv_if_eq (tgt := 227) hx hb dX7_says722_220 (by decide) (fun h38 => ?_) (fun h38 => ?_)
      · have hf := pq_brt hf h38
        refine lv_iconst (v := (0 : Int32)) hx hb dX7_says722_227 (by decide) ?_
        refine lv_goto (tgt := 241) hx hb dX7_says722_228 (by decide) ?_
        exact J241 x1 x8 (0 : Int32) c_odd c_even f_bands f_sieve _ _ hh ls (lv_sub hl [1, 2, 3] rfl) hf
      · have hf := pq_brf hf h38
        refine lv_iconst (v := (1 : Int32)) hx hb dX7_says722_223 (by decide) ?_
        refine lv_goto (tgt := 241) hx hb dX7_says722_224 (by decide) ?_
        exact J241 x1 x8 (1 : Int32) c_odd c_even f_bands f_sieve _ _ hh ls (lv_sub hl [1, 2, 3] rfl) hf
  have J182 : ∀ (x1 : Int32) (x4 : Int32) (x8 : Int32) (x9 : Int32) (s0 : Int32) (c_odd : Int32) (c_even : Int32) (f_bands : Nat → Int32) (f_sieve : Nat → Int32) (H : Heap) (locs : List Loc), pq_H D A s (wX7_says722 cI th ad c_told c_sumZ c_sumE c_stepY c_odd c_even c_taped c_outs c_isFound f_bands f_sieve f_coefficients f_steps f_roots f_ups f_highs f_lowWeights f_highWeights) H locs → ∀ ls : Array Slot, lv_has ls 13 [(0, .ref th), (1, .int x1), (4, .int x4), (8, .int x8), (9, .int x9)] → fX7_says722_b182  f_coefficients f_steps f_roots f_ups f_highs f_lowWeights f_highWeights x1 x4 x8 x9 s0 c_odd c_even f_bands f_sieve = some res → W p l e (pq_rm 3 83) s m args below meth c H locs 0 0 Q (F0 m 182 ls [.int s0]) := by
    intro x1 x4 x8 x9 s0 c_odd c_even f_bands f_sieve H locs hh ls hl hf
    rw [fX7_says722_b182] at hf
    refine lv_istore (lv' := [(10, .int s0), (0, .ref th), (1, .int x1), (4, .int x4), (8, .int x8), (9, .int x9)]) hx hb dX7_says722_182 hl (by decide) rfl (fun ls hl => ?_)
    refine lv_iload hx hb dX7_says722_184 (lv_at hl 0 rfl) ?_
    refine lv_sipush (v := (564 : Int32)) hx hb dX7_says722_186 (by decide) ?_
    refine lv_aload_n hx hb dX7_says722_189 rfl (lv_at hl 1 rfl) ?_
    refine pq_get C hh i7 0 6 rfl rfl 23 (by decide) kf69 rfl rfl dX7_says722_190 ?_
    refine lv_iload hx hb dX7_says722_193 (lv_at hl 3 rfl) ?_
    refine lv_bipush (v := (24 : Int32)) hx hb dX7_says722_195 (by decide) ?_
    refine lv_iadd hx hb dX7_says722_197 ?_
    obtain ⟨h32, hf⟩ := pq_rdx hf
    refine pq_iald C hh 1 rfl h32 dX7_says722_198 (fun v33 e34 => ?_)
    have hf := hf v33 e34
    refine lv_imul hx hb dX7_says722_199 ?_
    refine lv_bipush (v := (12 : Int32)) hx hb dX7_says722_200 (by decide) ?_
    refine lv_ishr hx hb dX7_says722_202 ?_
    refine lv_icmp_ge (tgt := 210) hx hb dX7_says722_203 (by decide) (fun h35 => ?_) (fun h35 => ?_)
    · have hf := pq_brt hf h35
      refine lv_iconst (v := (0 : Int32)) hx hb dX7_says722_210 (by decide) ?_
      exact J211 x1 x8 x9 (0 : Int32) c_odd c_even f_bands f_sieve _ _ hh ls (lv_sub hl [1, 2, 4, 5] rfl) hf
    · have hf := pq_brf hf h35
      refine lv_iconst (v := (1 : Int32)) hx hb dX7_says722_206 (by decide) ?_
      refine lv_goto (tgt := 211) hx hb dX7_says722_207 (by decide) ?_
      exact J211 x1 x8 x9 (1 : Int32) c_odd c_even f_bands f_sieve _ _ hh ls (lv_sub hl [1, 2, 4, 5] rfl) hf
  have J136 : ∀ (x1 : Int32) (x4 : Int32) (s0 : Int32) (c_odd : Int32) (c_even : Int32) (f_bands : Nat → Int32) (f_sieve : Nat → Int32) (H : Heap) (locs : List Loc), pq_H D A s (wX7_says722 cI th ad c_told c_sumZ c_sumE c_stepY c_odd c_even c_taped c_outs c_isFound f_bands f_sieve f_coefficients f_steps f_roots f_ups f_highs f_lowWeights f_highWeights) H locs → ∀ ls : Array Slot, lv_has ls 13 [(0, .ref th), (1, .int x1), (4, .int x4)] → fX7_says722_b136  f_coefficients f_steps f_roots f_ups f_highs f_lowWeights f_highWeights x1 x4 s0 c_odd c_even f_bands f_sieve = some res → W p l e (pq_rm 3 83) s m args below meth c H locs 0 0 Q (F0 m 136 ls [.int s0]) := by
    intro x1 x4 s0 c_odd c_even f_bands f_sieve H locs hh ls hl hf
    rw [fX7_says722_b136] at hf
    refine lv_istore (lv' := [(8, .int s0), (0, .ref th), (1, .int x1), (4, .int x4)]) hx hb dX7_says722_136 hl (by decide) rfl (fun ls hl => ?_)
    refine lv_aload_n hx hb dX7_says722_138 rfl (lv_at hl 1 rfl) ?_
    refine lv_aload_n hx hb dX7_says722_139 rfl (lv_at hl 1 rfl) ?_
    refine pq_get C hh i7 0 6 rfl rfl 35 (by decide) kf188 rfl rfl dX7_says722_140 ?_
    refine lv_aload_n hx hb dX7_says722_143 rfl (lv_at hl 1 rfl) ?_
    refine pq_get C hh i7 0 6 rfl rfl 34 (by decide) kf185 rfl rfl dX7_says722_144 ?_
    refine lv_isub hx hb dX7_says722_147 ?_
    refine lv_bipush (v := (14 : Int32)) hx hb dX7_says722_148 (by decide) ?_
    refine lv_ishr hx hb dX7_says722_150 ?_
    refine lv_aload_n hx hb dX7_says722_151 rfl (lv_at hl 1 rfl) ?_
    refine pq_get C hh i7 0 6 rfl rfl 23 (by decide) kf69 rfl rfl dX7_says722_152 ?_
    refine lv_iload hx hb dX7_says722_155 (lv_at hl 3 rfl) ?_
    refine lv_bipush (v := (25 : Int32)) hx hb dX7_says722_157 (by decide) ?_
    refine lv_iadd hx hb dX7_says722_159 ?_
    obtain ⟨h26, hf⟩ := pq_rdx hf
    refine pq_iald C hh 1 rfl h26 dX7_says722_160 (fun v27 e28 => ?_)
    have hf := hf v27 e28
    refine lv_isub hx hb dX7_says722_161 ?_
    obtain ⟨r29, hu30, hf⟩ := pq_clx hf
    refine pq_cvI (n := 1) (As := [.int (((c_even - c_odd) >>> ((14 : Int32) &&& 31)) - v27)]) C hh (qX7_limited l D cI cL th (((c_even - c_odd) >>> ((14 : Int32) &&& 31)) - v27) r29 hu30) (gvX7_limited hs (pq_m19 _ (List.mem_of_getElem? (i := 11) rfl))) rfl (by decide +kernel) ⟨Nat.le_of_ble_eq_true rfl, Nat.le_of_ble_eq_true rfl⟩ 0 6 rfl rfl rfl hl.1 rfl rfl (Nat.le_of_ble_eq_true rfl) dX7_says722_162 ⟨Nat.zero_le _, Nat.zero_le _⟩ [] [0, 1, 2, 3, 4, 5, 6, 7, 8, 9] [0, 1, 2, 3, 4, 5, 6, 7, 8, 9] rfl rfl (by decide) (by decide) (by decide) rfl (fun H locs (hh : pq_H D A s (wX7_says722 cI th ad c_told c_sumZ c_sumE c_stepY c_odd c_even c_taped c_outs c_isFound f_bands f_sieve f_coefficients f_steps f_roots f_ups f_highs f_lowWeights f_highWeights) H locs) => ?_)
    refine lv_istore (lv' := [(9, .int r29), (8, .int s0), (0, .ref th), (1, .int x1), (4, .int x4)]) hx hb dX7_says722_165 hl (by decide) rfl (fun ls hl => ?_)
    refine lv_iload hx hb dX7_says722_167 (lv_at hl 0 rfl) ?_
    refine lv_if_ge (tgt := 180) hx hb dX7_says722_169 (by decide) (fun h31 => ?_) (fun h31 => ?_)
    · have hf := pq_brt hf h31
      refine lv_iload hx hb dX7_says722_180 (lv_at hl 0 rfl) ?_
      exact J182 x1 x4 s0 r29 r29 c_odd c_even f_bands f_sieve _ _ hh ls (lv_sub hl [2, 3, 4, 1, 0] rfl) hf
    · have hf := pq_brf hf h31
      refine lv_iload hx hb dX7_says722_172 (lv_at hl 0 rfl) ?_
      refine lv_iconst (v := (1 : Int32)) hx hb dX7_says722_174 (by decide) ?_
      refine lv_iadd hx hb dX7_says722_175 ?_
      refine lv_ineg hx hb dX7_says722_176 ?_
      refine lv_goto (tgt := 182) hx hb dX7_says722_177 (by decide) ?_
      exact J182 x1 x4 s0 r29 (-(r29 + (1 : Int32))) c_odd c_even f_bands f_sieve _ _ hh ls (lv_sub hl [2, 3, 4, 1, 0] rfl) hf
  have J104 : ∀ (x1 : Int32) (x4 : Int32) (x5 : Int32) (x7 : Int32) (c_odd : Int32) (c_even : Int32) (f_bands : Nat → Int32) (f_sieve : Nat → Int32) (H : Heap) (locs : List Loc), pq_H D A s (wX7_says722 cI th ad c_told c_sumZ c_sumE c_stepY c_odd c_even c_taped c_outs c_isFound f_bands f_sieve f_coefficients f_steps f_roots f_ups f_highs f_lowWeights f_highWeights) H locs → ∀ ls : Array Slot, lv_has ls 13 [(0, .ref th), (1, .int x1), (4, .int x4), (5, .int x5), (7, .int x7)] → fX7_says722_b104  f_coefficients f_steps f_roots f_ups f_highs f_lowWeights f_highWeights x1 x4 x5 x7 c_odd c_even f_bands f_sieve = some res → W p l e (pq_rm 3 83) s m args below meth c H locs 0 0 Q (F0 m 104 ls []) := by
    intro x1 x4 x5 x7 c_odd c_even f_bands f_sieve H locs hh ls hl hf
    rw [fX7_says722_b104] at hf
    refine lv_iload hx hb dX7_says722_104 (lv_at hl 3 rfl) ?_
    refine lv_if_lt (tgt := 117) hx hb dX7_says722_106 (by decide) (fun h24 => ?_) (fun h24 => ?_)
    · have hf := pq_brt hf h24
      refine lv_iload hx hb dX7_says722_117 (lv_at hl 4 rfl) ?_
      refine lv_iconst (v := (3 : Int32)) hx hb dX7_says722_119 (by decide) ?_
      refine lv_icmp_ge (tgt := 131) hx hb dX7_says722_120 (by decide) (fun h25 => ?_) (fun h25 => ?_)
      · have hf := pq_brt hf h25
        refine lv_bipush (v := (34 : Int32)) hx hb dX7_says722_131 (by decide) ?_
        refine lv_iload hx hb dX7_says722_133 (lv_at hl 4 rfl) ?_
        refine lv_isub hx hb dX7_says722_135 ?_
        exact J136 x1 x4 ((34 : Int32) - x7) c_odd c_even f_bands f_sieve _ _ hh ls (lv_sub hl [0, 1, 2] rfl) hf
      · have hf := pq_brf hf h25
        refine lv_bipush (v := (64 : Int32)) hx hb dX7_says722_123 (by decide) ?_
        refine lv_iload hx hb dX7_says722_125 (lv_at hl 4 rfl) ?_
        refine lv_isub hx hb dX7_says722_127 ?_
        refine lv_goto (tgt := 136) hx hb dX7_says722_128 (by decide) ?_
        exact J136 x1 x4 ((64 : Int32) - x7) c_odd c_even f_bands f_sieve _ _ hh ls (lv_sub hl [0, 1, 2] rfl) hf
    · have hf := pq_brf hf h24
      refine lv_bipush (v := (62 : Int32)) hx hb dX7_says722_109 (by decide) ?_
      refine lv_iload hx hb dX7_says722_111 (lv_at hl 4 rfl) ?_
      refine lv_isub hx hb dX7_says722_113 ?_
      refine lv_goto (tgt := 136) hx hb dX7_says722_114 (by decide) ?_
      exact J136 x1 x4 ((62 : Int32) - x7) c_odd c_even f_bands f_sieve _ _ hh ls (lv_sub hl [0, 1, 2] rfl) hf
  have J61 : ∀ (fuel61 : Nat) (x1 : Int32) (x4 : Int32) (x5 : Int32) (x6 : Int32) (x7 : Int32) (c_odd : Int32) (c_even : Int32) (f_bands : Nat → Int32) (f_sieve : Nat → Int32) (H : Heap) (locs : List Loc), pq_H D A s (wX7_says722 cI th ad c_told c_sumZ c_sumE c_stepY c_odd c_even c_taped c_outs c_isFound f_bands f_sieve f_coefficients f_steps f_roots f_ups f_highs f_lowWeights f_highWeights) H locs → ∀ ls : Array Slot, lv_has ls 13 [(0, .ref th), (1, .int x1), (4, .int x4), (5, .int x5), (6, .int x6), (7, .int x7)] → fX7_says722_b61  f_coefficients f_steps f_roots f_ups f_highs f_lowWeights f_highWeights fuel61 x1 x4 x5 x6 x7 c_odd c_even f_bands f_sieve = some res → W p l e (pq_rm 3 83) s m args below meth c H locs 0 0 Q (F0 m 61 ls []) := by
    intro fuel61
    induction fuel61 with
    | zero => intro x1 x4 x5 x6 x7 c_odd c_even f_bands f_sieve H locs hh ls hl hf; rw [fX7_says722_b61] at hf; cases hf
    | succ fuel61 ih61 =>
      intro x1 x4 x5 x6 x7 c_odd c_even f_bands f_sieve H locs hh ls hl hf
      rw [fX7_says722_b61] at hf
      refine lv_iload hx hb dX7_says722_61 (lv_at hl 5 rfl) ?_
      refine lv_bipush (v := (30 : Int32)) hx hb dX7_says722_63 (by decide) ?_
      refine lv_icmp_ge (tgt := 104) hx hb dX7_says722_65 (by decide) (fun h14 => ?_) (fun h14 => ?_)
      · have hf := pq_brt hf h14
        exact J104 x1 x4 x5 x7 c_odd c_even f_bands f_sieve _ _ hh ls (lv_sub hl [0, 1, 2, 3, 5] rfl) hf
      · have hf := pq_brf hf h14
        refine lv_iload hx hb dX7_says722_68 (lv_at hl 4 rfl) ?_
        refine lv_aload_n hx hb dX7_says722_70 rfl (lv_at hl 0 rfl) ?_
        refine pq_get C hh i7 0 6 rfl rfl 26 (by decide) kf78 rfl rfl dX7_says722_71 ?_
        refine lv_iload hx hb dX7_says722_74 (lv_at hl 5 rfl) ?_
        refine lv_iconst (v := (1 : Int32)) hx hb dX7_says722_76 (by decide) ?_
        refine lv_isub hx hb dX7_says722_77 ?_
        obtain ⟨h15, hf⟩ := pq_rdx hf
        refine pq_iald C hh 4 rfl h15 dX7_says722_78 (fun v16 e17 => ?_)
        have hf := hf v16 e17
        refine lv_aload_n hx hb dX7_says722_79 rfl (lv_at hl 0 rfl) ?_
        refine pq_get C hh i7 0 6 rfl rfl 23 (by decide) kf69 rfl rfl dX7_says722_80 ?_
        refine lv_iload hx hb dX7_says722_83 (lv_at hl 2 rfl) ?_
        refine lv_iconst (v := (1 : Int32)) hx hb dX7_says722_85 (by decide) ?_
        refine lv_iadd hx hb dX7_says722_86 ?_
        obtain ⟨h18, hf⟩ := pq_rdx hf
        refine pq_iald C hh 1 rfl h18 dX7_says722_87 (fun v19 e20 => ?_)
        have hf := hf v19 e20
        refine lv_imul hx hb dX7_says722_88 ?_
        refine lv_bipush (v := (12 : Int32)) hx hb dX7_says722_89 (by decide) ?_
        refine lv_ishr hx hb dX7_says722_91 ?_
        refine lv_icmp_lt (tgt := 104) hx hb dX7_says722_92 (by decide) (fun h21 => ?_) (fun h21 => ?_)
        · have hf := pq_brt hf h21
          exact J104 x1 x4 x5 x7 c_odd c_even f_bands f_sieve _ _ hh ls (lv_sub hl [0, 1, 2, 3, 5] rfl) hf
        · have hf := pq_brf hf h21
          refine lv_iload hx hb dX7_says722_95 (lv_at hl 5 rfl) ?_
          refine lv_iconst (v := (1 : Int32)) hx hb dX7_says722_97 (by decide) ?_
          refine lv_iadd hx hb dX7_says722_98 ?_
          refine lv_topi (fun v22 e23 => ?_)
          have hf := pq_nmx hf v22 e23
          refine lv_istore (lv' := [(7, .int v22), (0, .ref th), (1, .int x1), (4, .int x4), (5, .int x5), (6, .int x6)]) hx hb dX7_says722_99 hl (by decide) rfl (fun ls hl => ?_)
          refine lv_goto (tgt := 61) hx hb dX7_says722_101 (by decide) ?_
          exact ih61 x1 x4 x5 x6 v22 c_odd c_even f_bands f_sieve _ _ hh ls (lv_sub hl [1, 2, 3, 4, 5, 0] rfl) hf
  have J56 : ∀ (x1 : Int32) (x4 : Int32) (x5 : Int32) (s0 : Int32) (c_odd : Int32) (c_even : Int32) (f_bands : Nat → Int32) (f_sieve : Nat → Int32) (H : Heap) (locs : List Loc), pq_H D A s (wX7_says722 cI th ad c_told c_sumZ c_sumE c_stepY c_odd c_even c_taped c_outs c_isFound f_bands f_sieve f_coefficients f_steps f_roots f_ups f_highs f_lowWeights f_highWeights) H locs → ∀ ls : Array Slot, lv_has ls 13 [(0, .ref th), (1, .int x1), (4, .int x4), (5, .int x5)] → fX7_says722_b56  f_coefficients f_steps f_roots f_ups f_highs f_lowWeights f_highWeights x1 x4 x5 s0 c_odd c_even f_bands f_sieve = some res → W p l e (pq_rm 3 83) s m args below meth c H locs 0 0 Q (F0 m 56 ls [.int s0]) := by
    intro x1 x4 x5 s0 c_odd c_even f_bands f_sieve H locs hh ls hl hf
    rw [fX7_says722_b56] at hf
    refine lv_istore (lv' := [(6, .int s0), (0, .ref th), (1, .int x1), (4, .int x4), (5, .int x5)]) hx hb dX7_says722_56 hl (by decide) rfl (fun ls hl => ?_)
    refine lv_iconst (v := (1 : Int32)) hx hb dX7_says722_58 (by decide) ?_
    refine lv_istore (lv' := [(7, .int (1 : Int32)), (6, .int s0), (0, .ref th), (1, .int x1), (4, .int x4), (5, .int x5)]) hx hb dX7_says722_59 hl (by decide) rfl (fun ls hl => ?_)
    exact J61 1100 x1 x4 x5 s0 (1 : Int32) c_odd c_even f_bands f_sieve _ _ hh ls (lv_sub hl [2, 3, 4, 5, 1, 0] rfl) hf
  rw [fX7_says722] at hf
  refine lv_aload_n hx hb dX7_says722_0 rfl (lv_at hl 0 rfl) ?_
  refine lv_iload_n hx hb dX7_says722_1 rfl (lv_at hl 1 rfl) ?_
  refine lv_iload_n hx hb dX7_says722_2 rfl (lv_at hl 2 rfl) ?_
  refine lv_iload_n hx hb dX7_says722_3 rfl (lv_at hl 3 rfl) ?_
  obtain ⟨⟨c1, c2, f3⟩, hu4, hf⟩ := pq_clx hf
  have hf := pq_nmx hf c1 rfl
  have hf := pq_nmx hf c2 rfl
  have hf := pq_nmx hf f3 rfl
  refine pq_cvV (n := 3) (As := [.int a1, .int a2, .int a3]) C hh (qX7_sieves l D cI cL th ad c_told c_sumZ c_sumE c_stepY c_odd c_even c_taped c_outs c_isFound f_sieve f_coefficients a1 a2 a3 (c1, c2, f3) hu4) (gvX7_sieves hs (pq_m20 _ (List.mem_of_getElem? (i := 5) rfl))) rfl (by decide +kernel) ⟨Nat.le_of_ble_eq_true rfl, Nat.le_of_ble_eq_true rfl⟩ 0 6 rfl rfl rfl hl.1 rfl rfl (Nat.le_of_ble_eq_true rfl) dX7_says722_4 ⟨Nat.zero_le _, Nat.zero_le _⟩ [0, 2, 3] [1, 4, 5, 6, 7, 8, 9] [7, 0, 8, 9, 1, 2, 3, 4, 5, 6] rfl rfl (by decide) (by decide) (by decide) rfl (fun H locs (hh : pq_H D A s (wX7_says722 cI th ad c_told c_sumZ c_sumE c_stepY c1 c2 c_taped c_outs c_isFound f_bands f3 f_coefficients f_steps f_roots f_ups f_highs f_lowWeights f_highWeights) H locs) => ?_)
  refine lv_bipush (v := (46 : Int32)) hx hb dX7_says722_7 (by decide) ?_
  refine lv_iload_n hx hb dX7_says722_9 rfl (lv_at hl 1 rfl) ?_
  refine lv_imul hx hb dX7_says722_10 ?_
  refine lv_topi (fun v6 e7 => ?_)
  have hf := pq_nmx hf v6 e7
  refine lv_istore (lv' := [(4, .int v6), (0, .ref th), (1, .int a1), (2, .int a2), (3, .int a3)]) hx hb dX7_says722_11 hl (by decide) rfl (fun ls hl => ?_)
  refine lv_aload_n hx hb dX7_says722_13 rfl (lv_at hl 1 rfl) ?_
  refine lv_aload_n hx hb dX7_says722_14 rfl (lv_at hl 1 rfl) ?_
  refine pq_get C hh i7 0 6 rfl rfl 35 (by decide) kf188 rfl rfl dX7_says722_15 ?_
  refine lv_aload_n hx hb dX7_says722_18 rfl (lv_at hl 1 rfl) ?_
  refine pq_get C hh i7 0 6 rfl rfl 34 (by decide) kf185 rfl rfl dX7_says722_19 ?_
  refine lv_iadd hx hb dX7_says722_22 ?_
  refine lv_bipush (v := (14 : Int32)) hx hb dX7_says722_23 (by decide) ?_
  refine lv_ishr hx hb dX7_says722_25 ?_
  refine lv_aload_n hx hb dX7_says722_26 rfl (lv_at hl 1 rfl) ?_
  refine pq_get C hh i7 0 6 rfl rfl 23 (by decide) kf69 rfl rfl dX7_says722_27 ?_
  refine lv_iload hx hb dX7_says722_30 (lv_at hl 0 rfl) ?_
  refine lv_iconst (v := (2 : Int32)) hx hb dX7_says722_32 (by decide) ?_
  refine lv_iadd hx hb dX7_says722_33 ?_
  obtain ⟨h8, hf⟩ := pq_rdx hf
  refine pq_iald C hh 1 rfl h8 dX7_says722_34 (fun v9 e10 => ?_)
  have hf := hf v9 e10
  refine lv_isub hx hb dX7_says722_35 ?_
  obtain ⟨r11, hu12, hf⟩ := pq_clx hf
  refine pq_cvI (n := 1) (As := [.int (((c2 + c1) >>> ((14 : Int32) &&& 31)) - v9)]) C hh (qX7_limited l D cI cL th (((c2 + c1) >>> ((14 : Int32) &&& 31)) - v9) r11 hu12) (gvX7_limited hs (pq_m19 _ (List.mem_of_getElem? (i := 11) rfl))) rfl (by decide +kernel) ⟨Nat.le_of_ble_eq_true rfl, Nat.le_of_ble_eq_true rfl⟩ 0 6 rfl rfl rfl hl.1 rfl rfl (Nat.le_of_ble_eq_true rfl) dX7_says722_36 ⟨Nat.zero_le _, Nat.zero_le _⟩ [] [0, 1, 2, 3, 4, 5, 6, 7, 8, 9] [0, 1, 2, 3, 4, 5, 6, 7, 8, 9] rfl rfl (by decide) (by decide) (by decide) rfl (fun H locs (hh : pq_H D A s (wX7_says722 cI th ad c_told c_sumZ c_sumE c_stepY c1 c2 c_taped c_outs c_isFound f_bands f3 f_coefficients f_steps f_roots f_ups f_highs f_lowWeights f_highWeights) H locs) => ?_)
  refine lv_istore (lv' := [(5, .int r11), (4, .int v6), (0, .ref th), (1, .int a1), (2, .int a2), (3, .int a3)]) hx hb dX7_says722_39 hl (by decide) rfl (fun ls hl => ?_)
  refine lv_iload hx hb dX7_says722_41 (lv_at hl 0 rfl) ?_
  refine lv_if_ge (tgt := 54) hx hb dX7_says722_43 (by decide) (fun h13 => ?_) (fun h13 => ?_)
  · have hf := pq_brt hf h13
    refine lv_iload hx hb dX7_says722_54 (lv_at hl 0 rfl) ?_
    exact J56 a1 v6 r11 r11 c1 c2 f_bands f3 _ _ hh ls (lv_sub hl [2, 3, 1, 0] rfl) hf
  · have hf := pq_brf hf h13
    refine lv_iload hx hb dX7_says722_46 (lv_at hl 0 rfl) ?_
    refine lv_iconst (v := (1 : Int32)) hx hb dX7_says722_48 (by decide) ?_
    refine lv_iadd hx hb dX7_says722_49 ?_
    refine lv_ineg hx hb dX7_says722_50 ?_
    refine lv_goto (tgt := 56) hx hb dX7_says722_51 (by decide) ?_
    exact J56 a1 v6 r11 (-(r11 + (1 : Int32))) c1 c2 f_bands f3 _ _ hh ls (lv_sub hl [2, 3, 1, 0] rfl) hf
set_option maxHeartbeats 4000000 in
set_option maxRecDepth 100000 in
theorem qX7_hears722 (l : Launch) (D : va_G) (cI cL : ClassId) (th : Nat) (ad : Nat → Nat) (c_told : Int32) (c_sumZ : Int32) (c_sumE : Int32) (c_stepY : Int32) (c_odd : Int32) (c_even : Int32) (c_taped : Int32) (c_outs : Int32) (c_isFound : Int32) (f_kinds : Nat → Int32) (f_seconds : Nat → Int32) (f_bands : Nat → Int32) (f_sieve : Nat → Int32) (f_coefficients : Nat → Int32) (f_roots : Nat → Int32) (f_ups : Nat → Int32) (f_highs : Nat → Int32) (f_lowWeights : Nat → Int32) (f_highWeights : Nat → Int32) (f_heard56 : Nat → Int32) (f_heard64 : Nat → Int32) (a1 : Int32) (a2 : Int32) (res : Int32 × Int32 × Int32 × (Nat → Int32) × (Nat → Int32) × (Nat → Int32)) (hf : fX7_hears722 a1 a2 f_kinds f_coefficients f_roots f_ups f_highs f_lowWeights f_highWeights f_heard56 f_heard64 c_odd c_even f_seconds f_bands f_sieve = some res) : pq_CI l yX7_hears722 qsX7_hears722 3 83 D cI cL [.ref th, .int a1, .int a2] (wX7_hears722 cI th ad c_told c_sumZ c_sumE c_stepY c_odd c_even c_taped c_outs c_isFound f_kinds f_seconds f_bands f_sieve f_coefficients f_roots f_ups f_highs f_lowWeights f_highWeights f_heard56 f_heard64) (wX7_hears722 cI th ad c_told c_sumZ c_sumE c_stepY res.2.1 res.2.2.1 c_taped c_outs c_isFound f_kinds res.2.2.2.1 res.2.2.2.2.1 res.2.2.2.2.2 f_coefficients f_roots f_ups f_highs f_lowWeights f_highWeights f_heard56 f_heard64) res.1 := by
  refine pq_mkI (cc := cX7_hears722) (maxL := 9) (RT := .int) (by decide) rfl (Nat.le_of_ble_eq_true rfl) ?_
  intro p e s m args below meth c Q A C hh hret ls hl
  have hx := C.1
  have hb := C.2.1
  have hml := C.2.2.1
  have hown : s.vm.findClass RX7 = some m.cls := C.2.2.2.1
  have hs : ∀ w ∈ wsL_law, w ∈ qsX7_hears722 := fun _ h => List.mem_cons_of_mem _ h
  have htw : ∀ w ∈ wsL_law, w.before args s = true := fun w h => C.2.2.2.2.1 w (hs w h)
  have hl : lv_has ls 9 [(0, .ref th), (1, .int a1), (2, .int a2)] := hl
  have i7 : ∀ w ∈ wsX70, w ∈ qsX7_hears722 := fun w h => hs w (pq_i7 w h)
  have kf10 := htw (.fieldLink RX7 10 "VoiceDeskModel" "kinds" "[I") (pq_m3 _ (List.mem_of_getElem? (i := 21) rfl))
  have kf14 := htw (.fieldLink RX7 14 "VoiceDeskModel" "seconds" "[I") (pq_m3 _ (List.mem_of_getElem? (i := 22) rfl))
  have kf185 := htw (.fieldLink RX7 185 "VoiceDeskModel" "odd" "I") (pq_m20 _ (List.mem_of_getElem? (i := 4) rfl))
  have kf188 := htw (.fieldLink RX7 188 "VoiceDeskModel" "even" "I") (pq_m20 _ (List.mem_of_getElem? (i := 3) rfl))
  have kf69 := htw (.fieldLink RX7 69 "VoiceDeskModel" "bands" "[I") (pq_m4 _ (List.mem_of_getElem? (i := 17) rfl))
  have kf87 := htw (.fieldLink RX7 87 "VoiceDeskModel" "highs" "[I") (pq_m4 _ (List.mem_of_getElem? (i := 23) rfl))
  rw [fX7_hears722] at hf
  refine lv_iconst (v := (2 : Int32)) hx hb dX7_hears722_0 (by decide) ?_
  refine lv_iload_n hx hb dX7_hears722_1 rfl (lv_at hl 1 rfl) ?_
  refine lv_imul hx hb dX7_hears722_2 ?_
  refine lv_iconst (v := (1 : Int32)) hx hb dX7_hears722_3 (by decide) ?_
  refine lv_iadd hx hb dX7_hears722_4 ?_
  refine lv_topi (fun v1 e2 => ?_)
  have hf := pq_nmx hf v1 e2
  refine lv_istore_n (lv' := [(3, .int v1), (0, .ref th), (1, .int a1), (2, .int a2)]) hx hb dX7_hears722_5 rfl hl (by decide) rfl (fun ls hl => ?_)
  refine lv_bipush (v := (46 : Int32)) hx hb dX7_hears722_6 (by decide) ?_
  refine lv_iload_n hx hb dX7_hears722_8 rfl (lv_at hl 0 rfl) ?_
  refine lv_imul hx hb dX7_hears722_9 ?_
  refine lv_topi (fun v3 e4 => ?_)
  have hf := pq_nmx hf v3 e4
  refine lv_istore (lv' := [(4, .int v3), (3, .int v1), (0, .ref th), (1, .int a1), (2, .int a2)]) hx hb dX7_hears722_10 hl (by decide) rfl (fun ls hl => ?_)
  refine lv_iload_n hx hb dX7_hears722_12 rfl (lv_at hl 4 rfl) ?_
  refine lv_bipush (v := (63 : Int32)) hx hb dX7_hears722_13 (by decide) ?_
  refine lv_iand hx hb dX7_hears722_15 ?_
  refine lv_topi (fun v5 e6 => ?_)
  have hf := pq_nmx hf v5 e6
  refine lv_istore (lv' := [(5, .int v5), (4, .int v3), (3, .int v1), (0, .ref th), (1, .int a1), (2, .int a2)]) hx hb dX7_hears722_16 hl (by decide) rfl (fun ls hl => ?_)
  refine lv_iload_n hx hb dX7_hears722_18 rfl (lv_at hl 5 rfl) ?_
  refine lv_bipush (v := (6 : Int32)) hx hb dX7_hears722_19 (by decide) ?_
  refine lv_ishr hx hb dX7_hears722_21 ?_
  refine lv_topi (fun v7 e8 => ?_)
  have hf := pq_nmx hf v7 e8
  refine lv_istore (lv' := [(6, .int v7), (5, .int v5), (4, .int v3), (3, .int v1), (0, .ref th), (1, .int a1), (2, .int a2)]) hx hb dX7_hears722_22 hl (by decide) rfl (fun ls hl => ?_)
  refine lv_aload_n hx hb dX7_hears722_24 rfl (lv_at hl 4 rfl) ?_
  refine lv_aload_n hx hb dX7_hears722_25 rfl (lv_at hl 4 rfl) ?_
  refine pq_get C hh i7 0 6 rfl rfl 23 (by decide) kf69 rfl rfl dX7_hears722_26 ?_
  refine lv_iload hx hb dX7_hears722_29 (lv_at hl 2 rfl) ?_
  refine lv_iconst (v := (2 : Int32)) hx hb dX7_hears722_31 (by decide) ?_
  refine lv_iadd hx hb dX7_hears722_32 ?_
  obtain ⟨h9, hf⟩ := pq_rdx hf
  refine pq_iald C hh 3 rfl h9 dX7_hears722_33 (fun v10 e11 => ?_)
  have hf := hf v10 e11
  refine lv_aload_n hx hb dX7_hears722_34 rfl (lv_at hl 4 rfl) ?_
  refine pq_get C hh i7 0 6 rfl rfl 23 (by decide) kf69 rfl rfl dX7_hears722_35 ?_
  refine lv_iload hx hb dX7_hears722_38 (lv_at hl 2 rfl) ?_
  refine lv_iconst (v := (1 : Int32)) hx hb dX7_hears722_40 (by decide) ?_
  refine lv_iadd hx hb dX7_hears722_41 ?_
  obtain ⟨h12, hf⟩ := pq_rdx hf
  refine pq_iald C hh 3 rfl h12 dX7_hears722_42 (fun v13 e14 => ?_)
  have hf := hf v13 e14
  refine lv_aload_n hx hb dX7_hears722_43 rfl (lv_at hl 4 rfl) ?_
  refine lv_aload_n hx hb dX7_hears722_44 rfl (lv_at hl 4 rfl) ?_
  refine pq_get C hh i7 0 6 rfl rfl 1 (by decide) kf10 rfl rfl dX7_hears722_45 ?_
  refine lv_iload_n hx hb dX7_hears722_48 rfl (lv_at hl 5 rfl) ?_
  obtain ⟨h15, hf⟩ := pq_rdx hf
  refine pq_iald C hh 1 rfl h15 dX7_hears722_49 (fun v16 e17 => ?_)
  have hf := hf v16 e17
  refine lv_iload hx hb dX7_hears722_50 (lv_at hl 1 rfl) ?_
  obtain ⟨r18, hu19, hf⟩ := pq_clx hf
  refine pq_cvI (n := 2) (As := [.int v16, .int v5]) C hh (qX7_heardBy l D cI cL th ad c_told c_sumZ c_sumE c_stepY c_odd c_even c_taped c_outs c_isFound f_ups f_heard56 f_heard64 v16 v5 r18 hu19) (gvX7_heardBy hs (pq_m23 _ (List.mem_of_getElem? (i := 20) rfl))) rfl (by decide +kernel) ⟨Nat.le_of_ble_eq_true rfl, Nat.le_of_ble_eq_true rfl⟩ 0 6 rfl rfl rfl hl.1 rfl rfl (Nat.le_of_ble_eq_true rfl) dX7_hears722_52 ⟨Nat.zero_le _, Nat.zero_le _⟩ [0, 7, 11, 12] [1, 2, 3, 4, 5, 6, 8, 9, 10] [9, 0, 1, 2, 3, 4, 5, 10, 6, 7, 8, 11, 12] rfl rfl (by decide) (by decide) (by decide) rfl (fun H locs (hh : pq_H D A s (wX7_hears722 cI th ad c_told c_sumZ c_sumE c_stepY c_odd c_even c_taped c_outs c_isFound f_kinds f_seconds f_bands f_sieve f_coefficients f_roots f_ups f_highs f_lowWeights f_highWeights f_heard56 f_heard64) H locs) => ?_)
  refine lv_imul hx hb dX7_hears722_55 ?_
  refine lv_bipush (v := (15 : Int32)) hx hb dX7_hears722_56 (by decide) ?_
  refine lv_ishr hx hb dX7_hears722_58 ?_
  refine lv_iadd hx hb dX7_hears722_59 ?_
  refine lv_sipush (v := (-16384 : Int32)) hx hb dX7_hears722_60 (by decide) ?_
  refine lv_sipush (v := (16383 : Int32)) hx hb dX7_hears722_63 (by decide) ?_
  obtain ⟨r20, hu21, hf⟩ := pq_clx hf
  refine pq_cvI (n := 3) (As := [.int (v10 + ((v13 * r18) >>> ((15 : Int32) &&& 31))), .int (-16384 : Int32), .int (16383 : Int32)]) C hh (qX7_cut l D cI cL th (v10 + ((v13 * r18) >>> ((15 : Int32) &&& 31))) (-16384 : Int32) (16383 : Int32) r20 hu21) (gvX7_cut hs (pq_m18 _ (List.mem_of_getElem? (i := 19) rfl))) rfl (by decide +kernel) ⟨Nat.le_of_ble_eq_true rfl, Nat.le_of_ble_eq_true rfl⟩ 0 6 rfl rfl rfl hl.1 rfl rfl (Nat.le_of_ble_eq_true rfl) dX7_hears722_66 ⟨Nat.zero_le _, Nat.zero_le _⟩ [] [0, 1, 2, 3, 4, 5, 6, 7, 8, 9, 10, 11, 12] [0, 1, 2, 3, 4, 5, 6, 7, 8, 9, 10, 11, 12] rfl rfl (by decide) (by decide) (by decide) rfl (fun H locs (hh : pq_H D A s (wX7_hears722 cI th ad c_told c_sumZ c_sumE c_stepY c_odd c_even c_taped c_outs c_isFound f_kinds f_seconds f_bands f_sieve f_coefficients f_roots f_ups f_highs f_lowWeights f_highWeights f_heard56 f_heard64) H locs) => ?_)
  refine lv_istore (lv' := [(7, .int r20), (6, .int v7), (5, .int v5), (4, .int v3), (3, .int v1), (0, .ref th), (1, .int a1), (2, .int a2)]) hx hb dX7_hears722_69 hl (by decide) rfl (fun ls hl => ?_)
  refine lv_aload_n hx hb dX7_hears722_71 rfl (lv_at hl 5 rfl) ?_
  refine lv_aload_n hx hb dX7_hears722_72 rfl (lv_at hl 5 rfl) ?_
  refine pq_get C hh i7 0 6 rfl rfl 23 (by decide) kf69 rfl rfl dX7_hears722_73 ?_
  refine lv_iload hx hb dX7_hears722_76 (lv_at hl 3 rfl) ?_
  refine lv_bipush (v := (25 : Int32)) hx hb dX7_hears722_78 (by decide) ?_
  refine lv_iadd hx hb dX7_hears722_80 ?_
  obtain ⟨h22, hf⟩ := pq_rdx hf
  refine pq_iald C hh 3 rfl h22 dX7_hears722_81 (fun v23 e24 => ?_)
  have hf := hf v23 e24
  refine lv_aload_n hx hb dX7_hears722_82 rfl (lv_at hl 5 rfl) ?_
  refine pq_get C hh i7 0 6 rfl rfl 23 (by decide) kf69 rfl rfl dX7_hears722_83 ?_
  refine lv_iload hx hb dX7_hears722_86 (lv_at hl 3 rfl) ?_
  refine lv_bipush (v := (24 : Int32)) hx hb dX7_hears722_88 (by decide) ?_
  refine lv_iadd hx hb dX7_hears722_90 ?_
  obtain ⟨h25, hf⟩ := pq_rdx hf
  refine pq_iald C hh 3 rfl h25 dX7_hears722_91 (fun v26 e27 => ?_)
  have hf := hf v26 e27
  refine lv_aload_n hx hb dX7_hears722_92 rfl (lv_at hl 5 rfl) ?_
  refine pq_get C hh i7 0 6 rfl rfl 29 (by decide) kf87 rfl rfl dX7_hears722_93 ?_
  refine lv_iload hx hb dX7_hears722_96 (lv_at hl 1 rfl) ?_
  obtain ⟨h28, hf⟩ := pq_rdx hf
  refine pq_iald C hh 8 rfl h28 dX7_hears722_98 (fun v29 e30 => ?_)
  have hf := hf v29 e30
  refine lv_imul hx hb dX7_hears722_99 ?_
  refine lv_bipush (v := (15 : Int32)) hx hb dX7_hears722_100 (by decide) ?_
  refine lv_ishr hx hb dX7_hears722_102 ?_
  refine lv_iadd hx hb dX7_hears722_103 ?_
  refine lv_sipush (v := (-16384 : Int32)) hx hb dX7_hears722_104 (by decide) ?_
  refine lv_sipush (v := (16383 : Int32)) hx hb dX7_hears722_107 (by decide) ?_
  obtain ⟨r31, hu32, hf⟩ := pq_clx hf
  refine pq_cvI (n := 3) (As := [.int (v23 + ((v26 * v29) >>> ((15 : Int32) &&& 31))), .int (-16384 : Int32), .int (16383 : Int32)]) C hh (qX7_cut l D cI cL th (v23 + ((v26 * v29) >>> ((15 : Int32) &&& 31))) (-16384 : Int32) (16383 : Int32) r31 hu32) (gvX7_cut hs (pq_m18 _ (List.mem_of_getElem? (i := 19) rfl))) rfl (by decide +kernel) ⟨Nat.le_of_ble_eq_true rfl, Nat.le_of_ble_eq_true rfl⟩ 0 6 rfl rfl rfl hl.1 rfl rfl (Nat.le_of_ble_eq_true rfl) dX7_hears722_110 ⟨Nat.zero_le _, Nat.zero_le _⟩ [] [0, 1, 2, 3, 4, 5, 6, 7, 8, 9, 10, 11, 12] [0, 1, 2, 3, 4, 5, 6, 7, 8, 9, 10, 11, 12] rfl rfl (by decide) (by decide) (by decide) rfl (fun H locs (hh : pq_H D A s (wX7_hears722 cI th ad c_told c_sumZ c_sumE c_stepY c_odd c_even c_taped c_outs c_isFound f_kinds f_seconds f_bands f_sieve f_coefficients f_roots f_ups f_highs f_lowWeights f_highWeights f_heard56 f_heard64) H locs) => ?_)
  refine lv_istore (lv' := [(8, .int r31), (7, .int r20), (6, .int v7), (5, .int v5), (4, .int v3), (3, .int v1), (0, .ref th), (1, .int a1), (2, .int a2)]) hx hb dX7_hears722_113 hl (by decide) rfl (fun ls hl => ?_)
  refine lv_aload_n hx hb dX7_hears722_115 rfl (lv_at hl 6 rfl) ?_
  refine lv_iload_n hx hb dX7_hears722_116 rfl (lv_at hl 5 rfl) ?_
  refine lv_iload hx hb dX7_hears722_117 (lv_at hl 3 rfl) ?_
  refine lv_iload hx hb dX7_hears722_119 (lv_at hl 2 rfl) ?_
  obtain ⟨f33, hu34, hf⟩ := pq_clx hf
  refine pq_cvV (n := 3) (As := [.int v1, .int v5, .int v7]) C hh (qX7_both l D cI cL th ad c_told c_sumZ c_sumE c_stepY c_odd c_even c_taped c_outs c_isFound f_bands f_roots f_ups f_highs f_lowWeights f_highWeights v1 v5 v7 f33 hu34) (gvX7_both hs (pq_m20 _ (List.mem_of_getElem? (i := 9) rfl))) rfl (by decide +kernel) ⟨Nat.le_of_ble_eq_true rfl, Nat.le_of_ble_eq_true rfl⟩ 0 6 rfl rfl rfl hl.1 rfl rfl (Nat.le_of_ble_eq_true rfl) dX7_hears722_121 ⟨Nat.zero_le _, Nat.zero_le _⟩ [0, 3, 6, 7, 8, 9, 10] [1, 2, 4, 5, 11, 12] [6, 0, 1, 7, 2, 3, 8, 9, 10, 11, 12, 4, 5] rfl rfl (by decide) (by decide) (by decide) rfl (fun H locs (hh : pq_H D A s (wX7_hears722 cI th ad c_told c_sumZ c_sumE c_stepY c_odd c_even c_taped c_outs c_isFound f_kinds f_seconds f33 f_sieve f_coefficients f_roots f_ups f_highs f_lowWeights f_highWeights f_heard56 f_heard64) H locs) => ?_)
  refine lv_aload_n hx hb dX7_hears722_124 rfl (lv_at hl 6 rfl) ?_
  refine lv_iload_n hx hb dX7_hears722_125 rfl (lv_at hl 5 rfl) ?_
  refine lv_iload hx hb dX7_hears722_126 (lv_at hl 1 rfl) ?_
  refine lv_iload hx hb dX7_hears722_128 (lv_at hl 0 rfl) ?_
  refine lv_iadd hx hb dX7_hears722_130 ?_
  refine lv_iload hx hb dX7_hears722_131 (lv_at hl 1 rfl) ?_
  refine lv_iload hx hb dX7_hears722_133 (lv_at hl 0 rfl) ?_
  refine lv_isub hx hb dX7_hears722_135 ?_
  obtain ⟨⟨c35, c36, f37⟩, hu38, hf⟩ := pq_clx hf
  have hf := pq_nmx hf c35 rfl
  have hf := pq_nmx hf c36 rfl
  have hf := pq_nmx hf f37 rfl
  refine pq_cvV (n := 3) (As := [.int v1, .int (r20 + r31), .int (r20 - r31)]) C hh (qX7_sieves l D cI cL th ad c_told c_sumZ c_sumE c_stepY c_odd c_even c_taped c_outs c_isFound f_sieve f_coefficients v1 (r20 + r31) (r20 - r31) (c35, c36, f37) hu38) (gvX7_sieves hs (pq_m20 _ (List.mem_of_getElem? (i := 5) rfl))) rfl (by decide +kernel) ⟨Nat.le_of_ble_eq_true rfl, Nat.le_of_ble_eq_true rfl⟩ 0 6 rfl rfl rfl hl.1 rfl rfl (Nat.le_of_ble_eq_true rfl) dX7_hears722_136 ⟨Nat.zero_le _, Nat.zero_le _⟩ [0, 4, 5] [1, 2, 3, 6, 7, 8, 9, 10, 11, 12] [10, 0, 1, 2, 11, 12, 3, 4, 5, 6, 7, 8, 9] rfl rfl (by decide) (by decide) (by decide) rfl (fun H locs (hh : pq_H D A s (wX7_hears722 cI th ad c_told c_sumZ c_sumE c_stepY c35 c36 c_taped c_outs c_isFound f_kinds f_seconds f33 f37 f_coefficients f_roots f_ups f_highs f_lowWeights f_highWeights f_heard56 f_heard64) H locs) => ?_)
  refine lv_aload_n hx hb dX7_hears722_139 rfl (lv_at hl 6 rfl) ?_
  refine pq_get C hh i7 0 6 rfl rfl 2 (by decide) kf14 rfl rfl dX7_hears722_140 ?_
  refine lv_iload_n hx hb dX7_hears722_143 rfl (lv_at hl 7 rfl) ?_
  refine lv_aload_n hx hb dX7_hears722_144 rfl (lv_at hl 6 rfl) ?_
  refine lv_aload_n hx hb dX7_hears722_145 rfl (lv_at hl 6 rfl) ?_
  refine pq_get C hh i7 0 6 rfl rfl 34 (by decide) kf185 rfl rfl dX7_hears722_146 ?_
  refine lv_bipush (v := (11 : Int32)) hx hb dX7_hears722_149 (by decide) ?_
  refine lv_ishr hx hb dX7_hears722_151 ?_
  obtain ⟨r40, hu41, hf⟩ := pq_clx hf
  refine pq_cvI (n := 1) (As := [.int (c35 >>> ((11 : Int32) &&& 31))]) C hh (qX7_limited l D cI cL th (c35 >>> ((11 : Int32) &&& 31)) r40 hu41) (gvX7_limited hs (pq_m19 _ (List.mem_of_getElem? (i := 11) rfl))) rfl (by decide +kernel) ⟨Nat.le_of_ble_eq_true rfl, Nat.le_of_ble_eq_true rfl⟩ 0 6 rfl rfl rfl hl.1 rfl rfl (Nat.le_of_ble_eq_true rfl) dX7_hears722_152 ⟨Nat.zero_le _, Nat.zero_le _⟩ [] [0, 1, 2, 3, 4, 5, 6, 7, 8, 9, 10, 11, 12] [0, 1, 2, 3, 4, 5, 6, 7, 8, 9, 10, 11, 12] rfl rfl (by decide) (by decide) (by decide) rfl (fun H locs (hh : pq_H D A s (wX7_hears722 cI th ad c_told c_sumZ c_sumE c_stepY c35 c36 c_taped c_outs c_isFound f_kinds f_seconds f33 f37 f_coefficients f_roots f_ups f_highs f_lowWeights f_highWeights f_heard56 f_heard64) H locs) => ?_)
  obtain ⟨h42, hf⟩ := pq_wrx hf
  refine pq_iast C hh 2 rfl h42 dX7_hears722_155 (fun H locs f43 e44 (hh : pq_H D A s (wX7_hears722 cI th ad c_told c_sumZ c_sumE c_stepY c35 c36 c_taped c_outs c_isFound f_kinds f43 f33 f37 f_coefficients f_roots f_ups f_highs f_lowWeights f_highWeights f_heard56 f_heard64) H locs) => ?_)
  have hf := hf f43 e44
  refine lv_aload_n hx hb dX7_hears722_156 rfl (lv_at hl 6 rfl) ?_
  refine lv_aload_n hx hb dX7_hears722_157 rfl (lv_at hl 6 rfl) ?_
  refine pq_get C hh i7 0 6 rfl rfl 35 (by decide) kf188 rfl rfl dX7_hears722_158 ?_
  refine lv_bipush (v := (11 : Int32)) hx hb dX7_hears722_161 (by decide) ?_
  refine lv_ishr hx hb dX7_hears722_163 ?_
  obtain ⟨r45, hu46, hf⟩ := pq_clx hf
  refine pq_cvI (n := 1) (As := [.int (c36 >>> ((11 : Int32) &&& 31))]) C hh (qX7_limited l D cI cL th (c36 >>> ((11 : Int32) &&& 31)) r45 hu46) (gvX7_limited hs (pq_m19 _ (List.mem_of_getElem? (i := 11) rfl))) rfl (by decide +kernel) ⟨Nat.le_of_ble_eq_true rfl, Nat.le_of_ble_eq_true rfl⟩ 0 6 rfl rfl rfl hl.1 rfl rfl (Nat.le_of_ble_eq_true rfl) dX7_hears722_164 ⟨Nat.zero_le _, Nat.zero_le _⟩ [] [0, 1, 2, 3, 4, 5, 6, 7, 8, 9, 10, 11, 12] [0, 1, 2, 3, 4, 5, 6, 7, 8, 9, 10, 11, 12] rfl rfl (by decide) (by decide) (by decide) rfl (fun H locs (hh : pq_H D A s (wX7_hears722 cI th ad c_told c_sumZ c_sumE c_stepY c35 c36 c_taped c_outs c_isFound f_kinds f43 f33 f37 f_coefficients f_roots f_ups f_highs f_lowWeights f_highWeights f_heard56 f_heard64) H locs) => ?_)
  obtain rfl := Option.some.inj hf
  exact hret _ _ _ ls hh dX7_hears722_167 rfl
set_option maxHeartbeats 4000000 in
set_option maxRecDepth 100000 in
theorem qX7_isSample (l : Launch) (D : va_G) (cI cL : ClassId) (th : Nat) (a1 : Int32) (res : Int32) (hf : fX7_isSample a1 = some res) : pq_CI l yX7_isSample qsX7_isSample 0 0 D cI cL [.ref th, .int a1] [] [] res := by
  refine pq_mkI (cc := cX7_isSample) (maxL := 2) (RT := .boolean) (by decide) rfl (Nat.le_of_ble_eq_true rfl) ?_
  intro p e s m args below meth c Q A C hh hret ls hl
  have hx := C.1
  have hb := C.2.1
  have hml := C.2.2.1
  have hown : s.vm.findClass RX7 = some m.cls := C.2.2.2.1
  have hs : ∀ w ∈ wsL_law, w ∈ qsX7_isSample := fun _ h => List.mem_cons_of_mem _ h
  have htw : ∀ w ∈ wsL_law, w.before args s = true := fun w h => C.2.2.2.2.1 w (hs w h)
  have hl : lv_has ls 2 [(0, .ref th), (1, .int a1)] := hl
  rw [fX7_isSample] at hf
  refine lv_iload_n hx hb dX7_isSample_0 rfl (lv_at hl 1 rfl) ?_
  refine lv_sipush (v := (-32768 : Int32)) hx hb dX7_isSample_1 (by decide) ?_
  refine lv_icmp_lt (tgt := 18) hx hb dX7_isSample_4 (by decide) (fun h1 => ?_) (fun h1 => ?_)
  · have hf := pq_brt hf h1
    refine lv_iconst (v := (0 : Int32)) hx hb dX7_isSample_18 (by decide) ?_
    obtain rfl := Option.some.inj hf
    exact hret _ _ _ ls hh dX7_isSample_19 (pq_nb0 rfl)
  · have hf := pq_brf hf h1
    refine lv_iload_n hx hb dX7_isSample_7 rfl (lv_at hl 1 rfl) ?_
    refine lv_sipush (v := (32767 : Int32)) hx hb dX7_isSample_8 (by decide) ?_
    refine lv_icmp_gt (tgt := 18) hx hb dX7_isSample_11 (by decide) (fun h2 => ?_) (fun h2 => ?_)
    · have hf := pq_brt hf h2
      refine lv_iconst (v := (0 : Int32)) hx hb dX7_isSample_18 (by decide) ?_
      obtain rfl := Option.some.inj hf
      exact hret _ _ _ ls hh dX7_isSample_19 (pq_nb0 rfl)
    · have hf := pq_brf hf h2
      refine lv_iconst (v := (1 : Int32)) hx hb dX7_isSample_14 (by decide) ?_
      refine lv_goto (tgt := 19) hx hb dX7_isSample_15 (by decide) ?_
      obtain rfl := Option.some.inj hf
      exact hret _ _ _ ls hh dX7_isSample_19 (pq_nb1 rfl)
set_option maxHeartbeats 4000000 in
set_option maxRecDepth 100000 in
theorem qX7_bitsOf (l : Launch) (D : va_G) (cI cL : ClassId) (th : Nat) (ad : Nat → Nat) (c_told : Int32) (c_sumZ : Int32) (c_sumE : Int32) (c_stepY : Int32) (c_odd : Int32) (c_even : Int32) (c_taped : Int32) (c_outs : Int32) (c_isFound : Int32) (f_kinds : Nat → Int32) (a1 : Int32) (res : Int32) (hf : fX7_bitsOf a1 f_kinds = some res) : pq_CI l yX7_bitsOf qsX7_bitsOf 0 0 D cI cL [.ref th, .int a1] (wX7_bitsOf cI th ad c_told c_sumZ c_sumE c_stepY c_odd c_even c_taped c_outs c_isFound f_kinds) (wX7_bitsOf cI th ad c_told c_sumZ c_sumE c_stepY c_odd c_even c_taped c_outs c_isFound f_kinds) res := by
  refine pq_mkI (cc := cX7_bitsOf) (maxL := 2) (RT := .int) (by decide) rfl (Nat.le_of_ble_eq_true rfl) ?_
  intro p e s m args below meth c Q A C hh hret ls hl
  have hx := C.1
  have hb := C.2.1
  have hml := C.2.2.1
  have hown : s.vm.findClass RX7 = some m.cls := C.2.2.2.1
  have hs : ∀ w ∈ wsL_law, w ∈ qsX7_bitsOf := fun _ h => List.mem_cons_of_mem _ h
  have htw : ∀ w ∈ wsL_law, w.before args s = true := fun w h => C.2.2.2.2.1 w (hs w h)
  have hl : lv_has ls 2 [(0, .ref th), (1, .int a1)] := hl
  have i7 : ∀ w ∈ wsX70, w ∈ qsX7_bitsOf := fun w h => hs w (pq_i7 w h)
  have kf10 := htw (.fieldLink RX7 10 "VoiceDeskModel" "kinds" "[I") (pq_m3 _ (List.mem_of_getElem? (i := 21) rfl))
  rw [fX7_bitsOf] at hf
  refine lv_aload_n hx hb dX7_bitsOf_0 rfl (lv_at hl 0 rfl) ?_
  refine pq_get C hh i7 0 6 rfl rfl 1 (by decide) kf10 rfl rfl dX7_bitsOf_1 ?_
  refine lv_iload_n hx hb dX7_bitsOf_4 rfl (lv_at hl 1 rfl) ?_
  obtain ⟨h1, hf⟩ := pq_rdx hf
  refine pq_iald C hh 1 rfl h1 dX7_bitsOf_5 (fun v2 e3 => ?_)
  have hf := hf v2 e3
  refine lv_iconst (v := (2 : Int32)) hx hb dX7_bitsOf_6 (by decide) ?_
  refine lv_icmp_lt (tgt := 29) hx hb dX7_bitsOf_7 (by decide) (fun h4 => ?_) (fun h4 => ?_)
  · have hf := pq_brt hf h4
    refine lv_bipush (v := (8 : Int32)) hx hb dX7_bitsOf_29 (by decide) ?_
    obtain rfl := Option.some.inj hf
    exact hret _ _ _ ls hh dX7_bitsOf_31 rfl
  · have hf := pq_brf hf h4
    refine lv_aload_n hx hb dX7_bitsOf_10 rfl (lv_at hl 0 rfl) ?_
    refine pq_get C hh i7 0 6 rfl rfl 1 (by decide) kf10 rfl rfl dX7_bitsOf_11 ?_
    refine lv_iload_n hx hb dX7_bitsOf_14 rfl (lv_at hl 1 rfl) ?_
    obtain ⟨h5, hf⟩ := pq_rdx hf
    refine pq_iald C hh 1 rfl h5 dX7_bitsOf_15 (fun v6 e7 => ?_)
    have hf := hf v6 e7
    refine lv_iconst (v := (5 : Int32)) hx hb dX7_bitsOf_16 (by decide) ?_
    refine lv_icmp_gt (tgt := 29) hx hb dX7_bitsOf_17 (by decide) (fun h8 => ?_) (fun h8 => ?_)
    · have hf := pq_brt hf h8
      refine lv_bipush (v := (8 : Int32)) hx hb dX7_bitsOf_29 (by decide) ?_
      obtain rfl := Option.some.inj hf
      exact hret _ _ _ ls hh dX7_bitsOf_31 rfl
    · have hf := pq_brf hf h8
      refine lv_aload_n hx hb dX7_bitsOf_20 rfl (lv_at hl 0 rfl) ?_
      refine pq_get C hh i7 0 6 rfl rfl 1 (by decide) kf10 rfl rfl dX7_bitsOf_21 ?_
      refine lv_iload_n hx hb dX7_bitsOf_24 rfl (lv_at hl 1 rfl) ?_
      obtain ⟨h9, hf⟩ := pq_rdx hf
      refine pq_iald C hh 1 rfl h9 dX7_bitsOf_25 (fun v10 e11 => ?_)
      have hf := hf v10 e11
      refine lv_goto (tgt := 31) hx hb dX7_bitsOf_26 (by decide) ?_
      obtain rfl := Option.some.inj hf
      exact hret _ _ _ ls hh dX7_bitsOf_31 rfl
set_option maxHeartbeats 4000000 in
set_option maxRecDepth 100000 in
theorem qX7_says (l : Launch) (D : va_G) (cI cL : ClassId) (th : Nat) (ad : Nat → Nat) (c_told : Int32) (c_sumZ : Int32) (c_sumE : Int32) (c_stepY : Int32) (c_odd : Int32) (c_even : Int32) (c_taped : Int32) (c_outs : Int32) (c_isFound : Int32) (f_kinds : Nat → Int32) (f_g : Nat → Int32) (f_bounds2 : Nat → Int32) (f_bounds3 : Nat → Int32) (f_bounds4 : Nat → Int32) (f_bounds5 : Nat → Int32) (f_table2 : Nat → Int32) (f_table3 : Nat → Int32) (f_table4 : Nat → Int32) (f_table5 : Nat → Int32) (f_weight2 : Nat → Int32) (f_weight3 : Nat → Int32) (f_weight4 : Nat → Int32) (f_weight5 : Nat → Int32) (f_pace2 : Nat → Int32) (f_pace3 : Nat → Int32) (f_pace4 : Nat → Int32) (f_pace5 : Nat → Int32) (a1 : Int32) (a2 : Int32) (res : Int32 × Int32 × Int32 × Int32 × (Nat → Int32)) (hf : fX7_says a1 a2 f_kinds f_bounds2 f_bounds3 f_bounds4 f_bounds5 f_table2 f_table3 f_table4 f_table5 f_weight2 f_weight3 f_weight4 f_weight5 f_pace2 f_pace3 f_pace4 f_pace5 c_sumZ c_sumE c_stepY f_g = some res) : pq_CI l yX7_says qsX7_says 4 117 D cI cL [.ref th, .int a1, .int a2] (wX7_says cI th ad c_told c_sumZ c_sumE c_stepY c_odd c_even c_taped c_outs c_isFound f_kinds f_g f_bounds2 f_bounds3 f_bounds4 f_bounds5 f_table2 f_table3 f_table4 f_table5 f_weight2 f_weight3 f_weight4 f_weight5 f_pace2 f_pace3 f_pace4 f_pace5) (wX7_says cI th ad c_told res.2.1 res.2.2.1 res.2.2.2.1 c_odd c_even c_taped c_outs c_isFound f_kinds res.2.2.2.2 f_bounds2 f_bounds3 f_bounds4 f_bounds5 f_table2 f_table3 f_table4 f_table5 f_weight2 f_weight3 f_weight4 f_weight5 f_pace2 f_pace3 f_pace4 f_pace5) res.1 := by
  refine pq_mkI (cc := cX7_says) (maxL := 3) (RT := .int) (by decide) rfl (Nat.le_of_ble_eq_true rfl) ?_
  intro p e s m args below meth c Q A C hh hret ls hl
  have hx := C.1
  have hb := C.2.1
  have hml := C.2.2.1
  have hown : s.vm.findClass RX7 = some m.cls := C.2.2.2.1
  have hs : ∀ w ∈ wsL_law, w ∈ qsX7_says := fun _ h => List.mem_cons_of_mem _ h
  have htw : ∀ w ∈ wsL_law, w.before args s = true := fun w h => C.2.2.2.2.1 w (hs w h)
  have hl : lv_has ls 3 [(0, .ref th), (1, .int a1), (2, .int a2)] := hl
  have i7 : ∀ w ∈ wsX70, w ∈ qsX7_says := fun w h => hs w (pq_i7 w h)
  have kf10 := htw (.fieldLink RX7 10 "VoiceDeskModel" "kinds" "[I") (pq_m3 _ (List.mem_of_getElem? (i := 21) rfl))
  rw [fX7_says] at hf
  refine lv_aload_n hx hb dX7_says_0 rfl (lv_at hl 0 rfl) ?_
  refine pq_get C hh i7 0 6 rfl rfl 1 (by decide) kf10 rfl rfl dX7_says_1 ?_
  refine lv_iload_n hx hb dX7_says_4 rfl (lv_at hl 1 rfl) ?_
  obtain ⟨h1, hf⟩ := pq_rdx hf
  refine pq_iald C hh 1 rfl h1 dX7_says_5 (fun v2 e3 => ?_)
  have hf := hf v2 e3
  refine lv_if_ne (tgt := 15) hx hb dX7_says_6 (by decide) (fun h4 => ?_) (fun h4 => ?_)
  · have hf := pq_brf hf h4
    refine lv_aload_n hx hb dX7_says_15 rfl (lv_at hl 0 rfl) ?_
    refine pq_get C hh i7 0 6 rfl rfl 1 (by decide) kf10 rfl rfl dX7_says_16 ?_
    refine lv_iload_n hx hb dX7_says_19 rfl (lv_at hl 1 rfl) ?_
    obtain ⟨h5, hf⟩ := pq_rdx hf
    refine pq_iald C hh 1 rfl h5 dX7_says_20 (fun v6 e7 => ?_)
    have hf := hf v6 e7
    refine lv_iconst (v := (1 : Int32)) hx hb dX7_says_21 (by decide) ?_
    refine lv_icmp_ne (tgt := 33) hx hb dX7_says_22 (by decide) (fun h8 => ?_) (fun h8 => ?_)
    · have hf := pq_brf hf h8
      refine lv_aload_n hx hb dX7_says_33 rfl (lv_at hl 0 rfl) ?_
      refine lv_iconst (v := (2 : Int32)) hx hb dX7_says_34 (by decide) ?_
      refine lv_iload_n hx hb dX7_says_35 rfl (lv_at hl 1 rfl) ?_
      refine lv_imul hx hb dX7_says_36 ?_
      refine lv_aload_n hx hb dX7_says_37 rfl (lv_at hl 0 rfl) ?_
      refine pq_get C hh i7 0 6 rfl rfl 1 (by decide) kf10 rfl rfl dX7_says_38 ?_
      refine lv_iload_n hx hb dX7_says_41 rfl (lv_at hl 1 rfl) ?_
      obtain ⟨h9, hf⟩ := pq_rdx hf
      refine pq_iald C hh 1 rfl h9 dX7_says_42 (fun v10 e11 => ?_)
      have hf := hf v10 e11
      refine lv_iload_n hx hb dX7_says_43 rfl (lv_at hl 2 rfl) ?_
      obtain ⟨⟨r12, c13, c14, c15, f16⟩, hu17, hf⟩ := pq_clx hf
      have hf := pq_nmx hf r12 rfl
      have hf := pq_nmx hf c13 rfl
      have hf := pq_nmx hf c14 rfl
      have hf := pq_nmx hf c15 rfl
      have hf := pq_nmx hf f16 rfl
      refine pq_cvI (n := 3) (As := [.int ((2 : Int32) * a1), .int v10, .int a2]) C hh (qX7_says726 l D cI cL th ad c_told c_sumZ c_sumE c_stepY c_odd c_even c_taped c_outs c_isFound f_g f_bounds2 f_bounds3 f_bounds4 f_bounds5 f_table2 f_table3 f_table4 f_table5 f_weight2 f_weight3 f_weight4 f_weight5 f_pace2 f_pace3 f_pace4 f_pace5 ((2 : Int32) * a1) v10 a2 (r12, c13, c14, c15, f16) hu17) (gvX7_says726 hs (pq_m17 _ (List.mem_of_getElem? (i := 0) rfl))) rfl (by decide +kernel) ⟨Nat.le_of_ble_eq_true rfl, Nat.le_of_ble_eq_true rfl⟩ 0 6 rfl rfl rfl hl.1 rfl rfl (Nat.le_of_ble_eq_true rfl) dX7_says_44 ⟨Nat.zero_le _, Nat.zero_le _⟩ [0, 2, 3, 4, 5, 6, 7, 8, 9, 10, 11, 12, 13, 14, 15, 16, 17, 18] [1] [1, 0, 2, 3, 4, 5, 6, 7, 8, 9, 10, 11, 12, 13, 14, 15, 16, 17, 18] rfl rfl (by decide) (by decide) (by decide) rfl (fun H locs (hh : pq_H D A s (wX7_says cI th ad c_told c13 c14 c15 c_odd c_even c_taped c_outs c_isFound f_kinds f16 f_bounds2 f_bounds3 f_bounds4 f_bounds5 f_table2 f_table3 f_table4 f_table5 f_weight2 f_weight3 f_weight4 f_weight5 f_pace2 f_pace3 f_pace4 f_pace5) H locs) => ?_)
      obtain rfl := Option.some.inj hf
      exact hret _ _ _ ls hh dX7_says_47 rfl
    · have hf := pq_brt hf h8
      refine lv_aload_n hx hb dX7_says_25 rfl (lv_at hl 0 rfl) ?_
      refine lv_iload_n hx hb dX7_says_26 rfl (lv_at hl 2 rfl) ?_
      obtain ⟨r19, hu20, hf⟩ := pq_clx hf
      refine pq_cvI (n := 1) (As := [.int a2]) C hh (qX7_aSays l D cI cL th a2 r19 hu20) (gvX7_aSays hs (pq_m16 _ (List.mem_of_getElem? (i := 20) rfl))) rfl (by decide +kernel) ⟨Nat.le_of_ble_eq_true rfl, Nat.le_of_ble_eq_true rfl⟩ 0 6 rfl rfl rfl hl.1 rfl rfl (Nat.le_of_ble_eq_true rfl) dX7_says_27 ⟨Nat.zero_le _, Nat.zero_le _⟩ [] [0, 1, 2, 3, 4, 5, 6, 7, 8, 9, 10, 11, 12, 13, 14, 15, 16, 17, 18] [0, 1, 2, 3, 4, 5, 6, 7, 8, 9, 10, 11, 12, 13, 14, 15, 16, 17, 18] rfl rfl (by decide) (by decide) (by decide) rfl (fun H locs (hh : pq_H D A s (wX7_says cI th ad c_told c_sumZ c_sumE c_stepY c_odd c_even c_taped c_outs c_isFound f_kinds f_g f_bounds2 f_bounds3 f_bounds4 f_bounds5 f_table2 f_table3 f_table4 f_table5 f_weight2 f_weight3 f_weight4 f_weight5 f_pace2 f_pace3 f_pace4 f_pace5) H locs) => ?_)
      refine lv_goto (tgt := 47) hx hb dX7_says_30 (by decide) ?_
      obtain rfl := Option.some.inj hf
      exact hret _ _ _ ls hh dX7_says_47 rfl
  · have hf := pq_brt hf h4
    refine lv_aload_n hx hb dX7_says_9 rfl (lv_at hl 0 rfl) ?_
    refine lv_iload_n hx hb dX7_says_10 rfl (lv_at hl 2 rfl) ?_
    obtain ⟨r21, hu22, hf⟩ := pq_clx hf
    refine pq_cvI (n := 1) (As := [.int a2]) C hh (qX7_muSays l D cI cL th ad c_told c_sumZ c_sumE c_stepY c_odd c_even c_taped c_outs c_isFound a2 r21 hu22) (gvX7_muSays hs (pq_m16 _ (List.mem_of_getElem? (i := 8) rfl))) rfl (by decide +kernel) ⟨Nat.le_of_ble_eq_true rfl, Nat.le_of_ble_eq_true rfl⟩ 0 6 rfl rfl rfl hl.1 rfl rfl (Nat.le_of_ble_eq_true rfl) dX7_says_11 ⟨Nat.zero_le _, Nat.zero_le _⟩ [0] [1, 2, 3, 4, 5, 6, 7, 8, 9, 10, 11, 12, 13, 14, 15, 16, 17, 18] [18, 0, 1, 2, 3, 4, 5, 6, 7, 8, 9, 10, 11, 12, 13, 14, 15, 16, 17] rfl rfl (by decide) (by decide) (by decide) rfl (fun H locs (hh : pq_H D A s (wX7_says cI th ad c_told c_sumZ c_sumE c_stepY c_odd c_even c_taped c_outs c_isFound f_kinds f_g f_bounds2 f_bounds3 f_bounds4 f_bounds5 f_table2 f_table3 f_table4 f_table5 f_weight2 f_weight3 f_weight4 f_weight5 f_pace2 f_pace3 f_pace4 f_pace5) H locs) => ?_)
    obtain rfl := Option.some.inj hf
    exact hret _ _ _ ls hh dX7_says_14 rfl
set_option maxHeartbeats 4000000 in
set_option maxRecDepth 100000 in
theorem qX7_hears (l : Launch) (D : va_G) (cI cL : ClassId) (th : Nat) (ad : Nat → Nat) (c_told : Int32) (c_sumZ : Int32) (c_sumE : Int32) (c_stepY : Int32) (c_odd : Int32) (c_even : Int32) (c_taped : Int32) (c_outs : Int32) (c_isFound : Int32) (f_kinds : Nat → Int32) (f_seconds : Nat → Int32) (f_g : Nat → Int32) (f_table2 : Nat → Int32) (f_table3 : Nat → Int32) (f_table4 : Nat → Int32) (f_table5 : Nat → Int32) (f_weight2 : Nat → Int32) (f_weight3 : Nat → Int32) (f_weight4 : Nat → Int32) (f_weight5 : Nat → Int32) (f_pace2 : Nat → Int32) (f_pace3 : Nat → Int32) (f_pace4 : Nat → Int32) (f_pace5 : Nat → Int32) (f_bands : Nat → Int32) (f_sieve : Nat → Int32) (f_coefficients : Nat → Int32) (f_roots : Nat → Int32) (f_ups : Nat → Int32) (f_highs : Nat → Int32) (f_lowWeights : Nat → Int32) (f_highWeights : Nat → Int32) (f_heard56 : Nat → Int32) (f_heard64 : Nat → Int32) (a1 : Int32) (a2 : Int32) (res : Int32 × Int32 × Int32 × Int32 × Int32 × Int32 × (Nat → Int32) × (Nat → Int32) × (Nat → Int32) × (Nat → Int32)) (hf : fX7_hears a1 a2 f_kinds f_table2 f_table3 f_table4 f_table5 f_weight2 f_weight3 f_weight4 f_weight5 f_pace2 f_pace3 f_pace4 f_pace5 f_coefficients f_roots f_ups f_highs f_lowWeights f_highWeights f_heard56 f_heard64 c_sumZ c_sumE c_stepY c_odd c_even f_seconds f_g f_bands f_sieve = some res) : pq_CI l yX7_hears qsX7_hears 4 111 D cI cL [.ref th, .int a1, .int a2] (wX7_hears cI th ad c_told c_sumZ c_sumE c_stepY c_odd c_even c_taped c_outs c_isFound f_kinds f_seconds f_g f_table2 f_table3 f_table4 f_table5 f_weight2 f_weight3 f_weight4 f_weight5 f_pace2 f_pace3 f_pace4 f_pace5 f_bands f_sieve f_coefficients f_roots f_ups f_highs f_lowWeights f_highWeights f_heard56 f_heard64) (wX7_hears cI th ad c_told res.2.1 res.2.2.1 res.2.2.2.1 res.2.2.2.2.1 res.2.2.2.2.2.1 c_taped c_outs c_isFound f_kinds res.2.2.2.2.2.2.1 res.2.2.2.2.2.2.2.1 f_table2 f_table3 f_table4 f_table5 f_weight2 f_weight3 f_weight4 f_weight5 f_pace2 f_pace3 f_pace4 f_pace5 res.2.2.2.2.2.2.2.2.1 res.2.2.2.2.2.2.2.2.2 f_coefficients f_roots f_ups f_highs f_lowWeights f_highWeights f_heard56 f_heard64) res.1 := by
  refine pq_mkI (cc := cX7_hears) (maxL := 3) (RT := .int) (by decide) rfl (Nat.le_of_ble_eq_true rfl) ?_
  intro p e s m args below meth c Q A C hh hret ls hl
  have hx := C.1
  have hb := C.2.1
  have hml := C.2.2.1
  have hown : s.vm.findClass RX7 = some m.cls := C.2.2.2.1
  have hs : ∀ w ∈ wsL_law, w ∈ qsX7_hears := fun _ h => List.mem_cons_of_mem _ h
  have htw : ∀ w ∈ wsL_law, w.before args s = true := fun w h => C.2.2.2.2.1 w (hs w h)
  have hl : lv_has ls 3 [(0, .ref th), (1, .int a1), (2, .int a2)] := hl
  have i7 : ∀ w ∈ wsX70, w ∈ qsX7_hears := fun w h => hs w (pq_i7 w h)
  have kf10 := htw (.fieldLink RX7 10 "VoiceDeskModel" "kinds" "[I") (pq_m3 _ (List.mem_of_getElem? (i := 21) rfl))
  rw [fX7_hears] at hf
  refine lv_aload_n hx hb dX7_hears_0 rfl (lv_at hl 0 rfl) ?_
  refine pq_get C hh i7 0 6 rfl rfl 1 (by decide) kf10 rfl rfl dX7_hears_1 ?_
  refine lv_iload_n hx hb dX7_hears_4 rfl (lv_at hl 1 rfl) ?_
  obtain ⟨h1, hf⟩ := pq_rdx hf
  refine pq_iald C hh 1 rfl h1 dX7_hears_5 (fun v2 e3 => ?_)
  have hf := hf v2 e3
  refine lv_if_ne (tgt := 15) hx hb dX7_hears_6 (by decide) (fun h4 => ?_) (fun h4 => ?_)
  · have hf := pq_brf hf h4
    refine lv_aload_n hx hb dX7_hears_15 rfl (lv_at hl 0 rfl) ?_
    refine pq_get C hh i7 0 6 rfl rfl 1 (by decide) kf10 rfl rfl dX7_hears_16 ?_
    refine lv_iload_n hx hb dX7_hears_19 rfl (lv_at hl 1 rfl) ?_
    obtain ⟨h5, hf⟩ := pq_rdx hf
    refine pq_iald C hh 1 rfl h5 dX7_hears_20 (fun v6 e7 => ?_)
    have hf := hf v6 e7
    refine lv_iconst (v := (1 : Int32)) hx hb dX7_hears_21 (by decide) ?_
    refine lv_icmp_ne (tgt := 31) hx hb dX7_hears_22 (by decide) (fun h8 => ?_) (fun h8 => ?_)
    · have hf := pq_brf hf h8
      refine lv_aload_n hx hb dX7_hears_31 rfl (lv_at hl 0 rfl) ?_
      refine pq_get C hh i7 0 6 rfl rfl 1 (by decide) kf10 rfl rfl dX7_hears_32 ?_
      refine lv_iload_n hx hb dX7_hears_35 rfl (lv_at hl 1 rfl) ?_
      obtain ⟨h9, hf⟩ := pq_rdx hf
      refine pq_iald C hh 1 rfl h9 dX7_hears_36 (fun v10 e11 => ?_)
      have hf := hf v10 e11
      refine lv_bipush (v := (6 : Int32)) hx hb dX7_hears_37 (by decide) ?_
      refine lv_icmp_ge (tgt := 61) hx hb dX7_hears_39 (by decide) (fun h12 => ?_) (fun h12 => ?_)
      · have hf := pq_brt hf h12
        refine lv_aload_n hx hb dX7_hears_61 rfl (lv_at hl 0 rfl) ?_
        refine lv_iload_n hx hb dX7_hears_62 rfl (lv_at hl 1 rfl) ?_
        refine lv_iload_n hx hb dX7_hears_63 rfl (lv_at hl 2 rfl) ?_
        obtain ⟨⟨r13, c14, c15, f16, f17, f18⟩, hu19, hf⟩ := pq_clx hf
        have hf := pq_nmx hf r13 rfl
        have hf := pq_nmx hf c14 rfl
        have hf := pq_nmx hf c15 rfl
        have hf := pq_nmx hf f16 rfl
        have hf := pq_nmx hf f17 rfl
        have hf := pq_nmx hf f18 rfl
        refine pq_cvI (n := 2) (As := [.int a1, .int a2]) C hh (qX7_hears722 l D cI cL th ad c_told c_sumZ c_sumE c_stepY c_odd c_even c_taped c_outs c_isFound f_kinds f_seconds f_bands f_sieve f_coefficients f_roots f_ups f_highs f_lowWeights f_highWeights f_heard56 f_heard64 a1 a2 (r13, c14, c15, f16, f17, f18) hu19) (gvX7_hears722 hs (pq_m23 _ (List.mem_of_getElem? (i := 16) rfl))) rfl (by decide +kernel) ⟨Nat.le_of_ble_eq_true rfl, Nat.le_of_ble_eq_true rfl⟩ 0 6 rfl rfl rfl hl.1 rfl rfl (Nat.le_of_ble_eq_true rfl) dX7_hears_64 ⟨Nat.zero_le _, Nat.zero_le _⟩ [0, 1, 2, 16, 17, 18, 19, 20, 21, 22, 23, 24, 25] [3, 4, 5, 6, 7, 8, 9, 10, 11, 12, 13, 14, 15] [13, 14, 15, 0, 1, 2, 3, 4, 5, 6, 7, 8, 9, 10, 11, 12, 16, 17, 18, 19, 20, 21, 22, 23, 24, 25] rfl rfl (by decide) (by decide) (by decide) rfl (fun H locs (hh : pq_H D A s (wX7_hears cI th ad c_told c_sumZ c_sumE c_stepY c14 c15 c_taped c_outs c_isFound f_kinds f16 f_g f_table2 f_table3 f_table4 f_table5 f_weight2 f_weight3 f_weight4 f_weight5 f_pace2 f_pace3 f_pace4 f_pace5 f17 f18 f_coefficients f_roots f_ups f_highs f_lowWeights f_highWeights f_heard56 f_heard64) H locs) => ?_)
        obtain rfl := Option.some.inj hf
        exact hret _ _ _ ls hh dX7_hears_67 rfl
      · have hf := pq_brf hf h12
        refine lv_aload_n hx hb dX7_hears_42 rfl (lv_at hl 0 rfl) ?_
        refine lv_iconst (v := (2 : Int32)) hx hb dX7_hears_43 (by decide) ?_
        refine lv_iload_n hx hb dX7_hears_44 rfl (lv_at hl 1 rfl) ?_
        refine lv_imul hx hb dX7_hears_45 ?_
        refine lv_iconst (v := (1 : Int32)) hx hb dX7_hears_46 (by decide) ?_
        refine lv_iadd hx hb dX7_hears_47 ?_
        refine lv_aload_n hx hb dX7_hears_48 rfl (lv_at hl 0 rfl) ?_
        refine pq_get C hh i7 0 6 rfl rfl 1 (by decide) kf10 rfl rfl dX7_hears_49 ?_
        refine lv_iload_n hx hb dX7_hears_52 rfl (lv_at hl 1 rfl) ?_
        obtain ⟨h21, hf⟩ := pq_rdx hf
        refine pq_iald C hh 1 rfl h21 dX7_hears_53 (fun v22 e23 => ?_)
        have hf := hf v22 e23
        refine lv_iload_n hx hb dX7_hears_54 rfl (lv_at hl 2 rfl) ?_
        obtain ⟨⟨r24, c25, c26, c27, f28⟩, hu29, hf⟩ := pq_clx hf
        have hf := pq_nmx hf r24 rfl
        have hf := pq_nmx hf c25 rfl
        have hf := pq_nmx hf c26 rfl
        have hf := pq_nmx hf c27 rfl
        have hf := pq_nmx hf f28 rfl
        refine pq_cvI (n := 3) (As := [.int (((2 : Int32) * a1) + (1 : Int32)), .int v22, .int a2]) C hh (qX7_hears726 l D cI cL th ad c_told c_sumZ c_sumE c_stepY c_odd c_even c_taped c_outs c_isFound f_g f_table2 f_table3 f_table4 f_table5 f_weight2 f_weight3 f_weight4 f_weight5 f_pace2 f_pace3 f_pace4 f_pace5 (((2 : Int32) * a1) + (1 : Int32)) v22 a2 (r24, c25, c26, c27, f28) hu29) (gvX7_hears726 hs (pq_m23 _ (List.mem_of_getElem? (i := 12) rfl))) rfl (by decide +kernel) ⟨Nat.le_of_ble_eq_true rfl, Nat.le_of_ble_eq_true rfl⟩ 0 6 rfl rfl rfl hl.1 rfl rfl (Nat.le_of_ble_eq_true rfl) dX7_hears_55 ⟨Nat.zero_le _, Nat.zero_le _⟩ [0, 3, 4, 5, 6, 7, 8, 9, 10, 11, 12, 13, 14, 15] [1, 2, 16, 17, 18, 19, 20, 21, 22, 23, 24, 25] [12, 0, 1, 13, 14, 15, 16, 17, 18, 19, 20, 21, 22, 23, 24, 25, 2, 3, 4, 5, 6, 7, 8, 9, 10, 11] rfl rfl (by decide) (by decide) (by decide) rfl (fun H locs (hh : pq_H D A s (wX7_hears cI th ad c_told c25 c26 c27 c_odd c_even c_taped c_outs c_isFound f_kinds f_seconds f28 f_table2 f_table3 f_table4 f_table5 f_weight2 f_weight3 f_weight4 f_weight5 f_pace2 f_pace3 f_pace4 f_pace5 f_bands f_sieve f_coefficients f_roots f_ups f_highs f_lowWeights f_highWeights f_heard56 f_heard64) H locs) => ?_)
        refine lv_goto (tgt := 67) hx hb dX7_hears_58 (by decide) ?_
        obtain rfl := Option.some.inj hf
        exact hret _ _ _ ls hh dX7_hears_67 rfl
    · have hf := pq_brt hf h8
      refine lv_aload_n hx hb dX7_hears_25 rfl (lv_at hl 0 rfl) ?_
      refine lv_iload_n hx hb dX7_hears_26 rfl (lv_at hl 2 rfl) ?_
      obtain ⟨r31, hu32, hf⟩ := pq_clx hf
      refine pq_cvI (n := 1) (As := [.int a2]) C hh (qX7_aHears l D cI cL th a2 r31 hu32) (gvX7_aHears hs (pq_m23 _ (List.mem_of_getElem? (i := 8) rfl))) rfl (by decide +kernel) ⟨Nat.le_of_ble_eq_true rfl, Nat.le_of_ble_eq_true rfl⟩ 0 6 rfl rfl rfl hl.1 rfl rfl (Nat.le_of_ble_eq_true rfl) dX7_hears_27 ⟨Nat.zero_le _, Nat.zero_le _⟩ [] [0, 1, 2, 3, 4, 5, 6, 7, 8, 9, 10, 11, 12, 13, 14, 15, 16, 17, 18, 19, 20, 21, 22, 23, 24, 25] [0, 1, 2, 3, 4, 5, 6, 7, 8, 9, 10, 11, 12, 13, 14, 15, 16, 17, 18, 19, 20, 21, 22, 23, 24, 25] rfl rfl (by decide) (by decide) (by decide) rfl (fun H locs (hh : pq_H D A s (wX7_hears cI th ad c_told c_sumZ c_sumE c_stepY c_odd c_even c_taped c_outs c_isFound f_kinds f_seconds f_g f_table2 f_table3 f_table4 f_table5 f_weight2 f_weight3 f_weight4 f_weight5 f_pace2 f_pace3 f_pace4 f_pace5 f_bands f_sieve f_coefficients f_roots f_ups f_highs f_lowWeights f_highWeights f_heard56 f_heard64) H locs) => ?_)
      obtain rfl := Option.some.inj hf
      exact hret _ _ _ ls hh dX7_hears_30 rfl
  · have hf := pq_brt hf h4
    refine lv_aload_n hx hb dX7_hears_9 rfl (lv_at hl 0 rfl) ?_
    refine lv_iload_n hx hb dX7_hears_10 rfl (lv_at hl 2 rfl) ?_
    obtain ⟨r33, hu34, hf⟩ := pq_clx hf
    refine pq_cvI (n := 1) (As := [.int a2]) C hh (qX7_muHears l D cI cL th a2 r33 hu34) (gvX7_muHears hs (pq_m23 _ (List.mem_of_getElem? (i := 4) rfl))) rfl (by decide +kernel) ⟨Nat.le_of_ble_eq_true rfl, Nat.le_of_ble_eq_true rfl⟩ 0 6 rfl rfl rfl hl.1 rfl rfl (Nat.le_of_ble_eq_true rfl) dX7_hears_11 ⟨Nat.zero_le _, Nat.zero_le _⟩ [] [0, 1, 2, 3, 4, 5, 6, 7, 8, 9, 10, 11, 12, 13, 14, 15, 16, 17, 18, 19, 20, 21, 22, 23, 24, 25] [0, 1, 2, 3, 4, 5, 6, 7, 8, 9, 10, 11, 12, 13, 14, 15, 16, 17, 18, 19, 20, 21, 22, 23, 24, 25] rfl rfl (by decide) (by decide) (by decide) rfl (fun H locs (hh : pq_H D A s (wX7_hears cI th ad c_told c_sumZ c_sumE c_stepY c_odd c_even c_taped c_outs c_isFound f_kinds f_seconds f_g f_table2 f_table3 f_table4 f_table5 f_weight2 f_weight3 f_weight4 f_weight5 f_pace2 f_pace3 f_pace4 f_pace5 f_bands f_sieve f_coefficients f_roots f_ups f_highs f_lowWeights f_highWeights f_heard56 f_heard64) H locs) => ?_)
    obtain rfl := Option.some.inj hf
    exact hret _ _ _ ls hh dX7_hears_14 rfl
set_option maxHeartbeats 4000000 in
set_option maxRecDepth 100000 in
theorem qX7_say (l : Launch) (D : va_G) (cI cL : ClassId) (th : Nat) (ad : Nat → Nat) (c_told : Int32) (c_sumZ : Int32) (c_sumE : Int32) (c_stepY : Int32) (c_odd : Int32) (c_even : Int32) (c_taped : Int32) (c_outs : Int32) (c_isFound : Int32) (f_kinds : Nat → Int32) (f_g : Nat → Int32) (f_bounds2 : Nat → Int32) (f_bounds3 : Nat → Int32) (f_bounds4 : Nat → Int32) (f_bounds5 : Nat → Int32) (f_table2 : Nat → Int32) (f_table3 : Nat → Int32) (f_table4 : Nat → Int32) (f_table5 : Nat → Int32) (f_weight2 : Nat → Int32) (f_weight3 : Nat → Int32) (f_weight4 : Nat → Int32) (f_weight5 : Nat → Int32) (f_pace2 : Nat → Int32) (f_pace3 : Nat → Int32) (f_pace4 : Nat → Int32) (f_pace5 : Nat → Int32) (a1 : Int32) (a2 : Int32) (res : Int32 × Int32 × Int32 × Int32 × Int32 × (Nat → Int32)) (hf : fX7_say a1 a2 f_kinds f_bounds2 f_bounds3 f_bounds4 f_bounds5 f_table2 f_table3 f_table4 f_table5 f_weight2 f_weight3 f_weight4 f_weight5 f_pace2 f_pace3 f_pace4 f_pace5 c_told c_sumZ c_sumE c_stepY f_g = some res) : pq_CI l yX7_say qsX7_say 5 139 D cI cL [.ref th, .int a1, .int a2] (wX7_say cI th ad c_told c_sumZ c_sumE c_stepY c_odd c_even c_taped c_outs c_isFound f_kinds f_g f_bounds2 f_bounds3 f_bounds4 f_bounds5 f_table2 f_table3 f_table4 f_table5 f_weight2 f_weight3 f_weight4 f_weight5 f_pace2 f_pace3 f_pace4 f_pace5) (wX7_say cI th ad res.2.1 res.2.2.1 res.2.2.2.1 res.2.2.2.2.1 c_odd c_even c_taped c_outs c_isFound f_kinds res.2.2.2.2.2 f_bounds2 f_bounds3 f_bounds4 f_bounds5 f_table2 f_table3 f_table4 f_table5 f_weight2 f_weight3 f_weight4 f_weight5 f_pace2 f_pace3 f_pace4 f_pace5) res.1 := by
  refine pq_mkI (cc := cX7_say) (maxL := 3) (RT := .int) (by decide) rfl (Nat.le_of_ble_eq_true rfl) ?_
  intro p e s m args below meth c Q A C hh hret ls hl
  have hx := C.1
  have hb := C.2.1
  have hml := C.2.2.1
  have hown : s.vm.findClass RX7 = some m.cls := C.2.2.2.1
  have hs : ∀ w ∈ wsL_law, w ∈ qsX7_say := fun _ h => List.mem_cons_of_mem _ h
  have htw : ∀ w ∈ wsL_law, w.before args s = true := fun w h => C.2.2.2.2.1 w (hs w h)
  have hl : lv_has ls 3 [(0, .ref th), (1, .int a1), (2, .int a2)] := hl
  have i7 : ∀ w ∈ wsX70, w ∈ qsX7_say := fun w h => hs w (pq_i7 w h)
  have kc9 := htw (.constant RX7 9 (-100000)) (pq_m3 _ (List.mem_of_getElem? (i := 20) rfl))
  have kf114 := htw (.fieldLink RX7 114 "VoiceDeskModel" "told" "I") (pq_m6 _ (List.mem_of_getElem? (i := 17) rfl))
  rw [fX7_say] at hf
  refine lv_aload_n hx hb dX7_say_0 rfl (lv_at hl 0 rfl) ?_
  refine lv_iconst (v := (0 : Int32)) hx hb dX7_say_1 (by decide) ?_
  refine pq_put (ty := .int) (v := .int (0 : Int32)) C hh i7 tyX7 tyX7_ok nmX7 0 6 rfl rfl 0 (by decide) kf114 rfl rfl (by decide +kernel) rfl rfl (Nat.le_of_ble_eq_true rfl) dX7_say_2 (fun H locs (hh : pq_H D A s (wX7_say cI th ad (0 : Int32) c_sumZ c_sumE c_stepY c_odd c_even c_taped c_outs c_isFound f_kinds f_g f_bounds2 f_bounds3 f_bounds4 f_bounds5 f_table2 f_table3 f_table4 f_table5 f_weight2 f_weight3 f_weight4 f_weight5 f_pace2 f_pace3 f_pace4 f_pace5) H locs) => ?_)
  refine lv_aload_n hx hb dX7_say_5 rfl (lv_at hl 0 rfl) ?_
  refine lv_iload_n hx hb dX7_say_6 rfl (lv_at hl 1 rfl) ?_
  obtain ⟨r1, hu2, hf⟩ := pq_clx hf
  refine pq_cvI (n := 1) (As := [.int a1]) C hh (qX7_isOpen l D cI cL th ad (0 : Int32) c_sumZ c_sumE c_stepY c_odd c_even c_taped c_outs c_isFound f_kinds a1 r1 hu2) (gvX7_isOpen hs (pq_m15 _ (List.mem_of_getElem? (i := 16) rfl))) rfl (by decide +kernel) ⟨Nat.le_of_ble_eq_true rfl, Nat.le_of_ble_eq_true rfl⟩ 0 6 rfl rfl rfl hl.1 rfl rfl (Nat.le_of_ble_eq_true rfl) dX7_say_7 ⟨Nat.zero_le _, Nat.zero_le _⟩ [0, 1] [2, 3, 4, 5, 6, 7, 8, 9, 10, 11, 12, 13, 14, 15, 16, 17, 18] [17, 18, 0, 1, 2, 3, 4, 5, 6, 7, 8, 9, 10, 11, 12, 13, 14, 15, 16] rfl rfl (by decide) (by decide) (by decide) rfl (fun H locs (hh : pq_H D A s (wX7_say cI th ad (0 : Int32) c_sumZ c_sumE c_stepY c_odd c_even c_taped c_outs c_isFound f_kinds f_g f_bounds2 f_bounds3 f_bounds4 f_bounds5 f_table2 f_table3 f_table4 f_table5 f_weight2 f_weight3 f_weight4 f_weight5 f_pace2 f_pace3 f_pace4 f_pace5) H locs) => ?_)
  refine lv_if_eq (tgt := 29) hx hb dX7_say_10 (by decide) (fun h3 => ?_) (fun h3 => ?_)
  · have hf := pq_brt hf h3
    refine lv_ldc (v := (-100000 : Int32)) hx hb hown kc9 dX7_say_29 ?_
    obtain rfl := Option.some.inj hf
    exact hret _ _ _ ls hh dX7_say_31 rfl
  · have hf := pq_brf hf h3
    refine lv_aload_n hx hb dX7_say_13 rfl (lv_at hl 0 rfl) ?_
    refine lv_iload_n hx hb dX7_say_14 rfl (lv_at hl 1 rfl) ?_
    obtain ⟨r4, hu5, hf⟩ := pq_clx hf
    refine pq_cvI (n := 1) (As := [.int a1]) C hh (qX7_isPaired l D cI cL th ad (0 : Int32) c_sumZ c_sumE c_stepY c_odd c_even c_taped c_outs c_isFound f_kinds a1 r4 hu5) (gvX7_isPaired hs (pq_m15 _ (List.mem_of_getElem? (i := 20) rfl))) rfl (by decide +kernel) ⟨Nat.le_of_ble_eq_true rfl, Nat.le_of_ble_eq_true rfl⟩ 0 6 rfl rfl rfl hl.1 rfl rfl (Nat.le_of_ble_eq_true rfl) dX7_say_15 ⟨Nat.zero_le _, Nat.zero_le _⟩ [0, 1] [2, 3, 4, 5, 6, 7, 8, 9, 10, 11, 12, 13, 14, 15, 16, 17, 18] [17, 18, 0, 1, 2, 3, 4, 5, 6, 7, 8, 9, 10, 11, 12, 13, 14, 15, 16] rfl rfl (by decide) (by decide) (by decide) rfl (fun H locs (hh : pq_H D A s (wX7_say cI th ad (0 : Int32) c_sumZ c_sumE c_stepY c_odd c_even c_taped c_outs c_isFound f_kinds f_g f_bounds2 f_bounds3 f_bounds4 f_bounds5 f_table2 f_table3 f_table4 f_table5 f_weight2 f_weight3 f_weight4 f_weight5 f_pace2 f_pace3 f_pace4 f_pace5) H locs) => ?_)
    refine lv_if_ne (tgt := 29) hx hb dX7_say_18 (by decide) (fun h6 => ?_) (fun h6 => ?_)
    · have hf := pq_brf hf h6
      refine lv_ldc (v := (-100000 : Int32)) hx hb hown kc9 dX7_say_29 ?_
      obtain rfl := Option.some.inj hf
      exact hret _ _ _ ls hh dX7_say_31 rfl
    · have hf := pq_brt hf h6
      refine lv_aload_n hx hb dX7_say_21 rfl (lv_at hl 0 rfl) ?_
      refine lv_iload_n hx hb dX7_say_22 rfl (lv_at hl 2 rfl) ?_
      obtain ⟨r7, hu8, hf⟩ := pq_clx hf
      refine pq_cvI (n := 1) (As := [.int a2]) C hh (qX7_isSample l D cI cL th a2 r7 hu8) (gvX7_isSample hs (pq_m16 _ (List.mem_of_getElem? (i := 0) rfl))) rfl (by decide +kernel) ⟨Nat.le_of_ble_eq_true rfl, Nat.le_of_ble_eq_true rfl⟩ 0 6 rfl rfl rfl hl.1 rfl rfl (Nat.le_of_ble_eq_true rfl) dX7_say_23 ⟨Nat.zero_le _, Nat.zero_le _⟩ [] [0, 1, 2, 3, 4, 5, 6, 7, 8, 9, 10, 11, 12, 13, 14, 15, 16, 17, 18] [0, 1, 2, 3, 4, 5, 6, 7, 8, 9, 10, 11, 12, 13, 14, 15, 16, 17, 18] rfl rfl (by decide) (by decide) (by decide) rfl (fun H locs (hh : pq_H D A s (wX7_say cI th ad (0 : Int32) c_sumZ c_sumE c_stepY c_odd c_even c_taped c_outs c_isFound f_kinds f_g f_bounds2 f_bounds3 f_bounds4 f_bounds5 f_table2 f_table3 f_table4 f_table5 f_weight2 f_weight3 f_weight4 f_weight5 f_pace2 f_pace3 f_pace4 f_pace5) H locs) => ?_)
      refine lv_if_ne (tgt := 32) hx hb dX7_say_26 (by decide) (fun h9 => ?_) (fun h9 => ?_)
      · have hf := pq_brf hf h9
        refine lv_aload_n hx hb dX7_say_32 rfl (lv_at hl 0 rfl) ?_
        refine lv_iload_n hx hb dX7_say_33 rfl (lv_at hl 1 rfl) ?_
        refine lv_iload_n hx hb dX7_say_34 rfl (lv_at hl 2 rfl) ?_
        obtain ⟨⟨r10, c11, c12, c13, f14⟩, hu15, hf⟩ := pq_clx hf
        have hf := pq_nmx hf r10 rfl
        have hf := pq_nmx hf c11 rfl
        have hf := pq_nmx hf c12 rfl
        have hf := pq_nmx hf c13 rfl
        have hf := pq_nmx hf f14 rfl
        refine pq_cvI (n := 2) (As := [.int a1, .int a2]) C hh (qX7_says l D cI cL th ad (0 : Int32) c_sumZ c_sumE c_stepY c_odd c_even c_taped c_outs c_isFound f_kinds f_g f_bounds2 f_bounds3 f_bounds4 f_bounds5 f_table2 f_table3 f_table4 f_table5 f_weight2 f_weight3 f_weight4 f_weight5 f_pace2 f_pace3 f_pace4 f_pace5 a1 a2 (r10, c11, c12, c13, f14) hu15) (gvX7_says hs (pq_m16 _ (List.mem_of_getElem? (i := 4) rfl))) rfl (by decide +kernel) ⟨Nat.le_of_ble_eq_true rfl, Nat.le_of_ble_eq_true rfl⟩ 0 6 rfl rfl rfl hl.1 rfl rfl (Nat.le_of_ble_eq_true rfl) dX7_say_35 ⟨Nat.zero_le _, Nat.zero_le _⟩ [0, 1, 2, 3, 4, 5, 6, 7, 8, 9, 10, 11, 12, 13, 14, 15, 16, 17, 18] [] [0, 1, 2, 3, 4, 5, 6, 7, 8, 9, 10, 11, 12, 13, 14, 15, 16, 17, 18] rfl rfl (by decide) (by decide) (by decide) rfl (fun H locs (hh : pq_H D A s (wX7_say cI th ad (0 : Int32) c11 c12 c13 c_odd c_even c_taped c_outs c_isFound f_kinds f14 f_bounds2 f_bounds3 f_bounds4 f_bounds5 f_table2 f_table3 f_table4 f_table5 f_weight2 f_weight3 f_weight4 f_weight5 f_pace2 f_pace3 f_pace4 f_pace5) H locs) => ?_)
        obtain rfl := Option.some.inj hf
        exact hret _ _ _ ls hh dX7_say_38 rfl
      · have hf := pq_brt hf h9
        refine lv_ldc (v := (-100000 : Int32)) hx hb hown kc9 dX7_say_29 ?_
        obtain rfl := Option.some.inj hf
        exact hret _ _ _ ls hh dX7_say_31 rfl
set_option maxHeartbeats 4000000 in
set_option maxRecDepth 100000 in
theorem qX7_pair (l : Launch) (D : va_G) (cI cL : ClassId) (th : Nat) (ad : Nat → Nat) (c_told : Int32) (c_sumZ : Int32) (c_sumE : Int32) (c_stepY : Int32) (c_odd : Int32) (c_even : Int32) (c_taped : Int32) (c_outs : Int32) (c_isFound : Int32) (f_kinds : Nat → Int32) (f_bands : Nat → Int32) (f_sieve : Nat → Int32) (f_coefficients : Nat → Int32) (f_steps : Nat → Int32) (f_roots : Nat → Int32) (f_ups : Nat → Int32) (f_highs : Nat → Int32) (f_lowWeights : Nat → Int32) (f_highWeights : Nat → Int32) (a1 : Int32) (a2 : Int32) (a3 : Int32) (res : Int32 × Int32 × Int32 × Int32 × (Nat → Int32) × (Nat → Int32)) (hf : fX7_pair a1 a2 a3 f_kinds f_coefficients f_steps f_roots f_ups f_highs f_lowWeights f_highWeights c_told c_odd c_even f_bands f_sieve = some res) : pq_CI l yX7_pair qsX7_pair 4 115 D cI cL [.ref th, .int a1, .int a2, .int a3] (wX7_pair cI th ad c_told c_sumZ c_sumE c_stepY c_odd c_even c_taped c_outs c_isFound f_kinds f_bands f_sieve f_coefficients f_steps f_roots f_ups f_highs f_lowWeights f_highWeights) (wX7_pair cI th ad res.2.1 c_sumZ c_sumE c_stepY res.2.2.1 res.2.2.2.1 c_taped c_outs c_isFound f_kinds res.2.2.2.2.1 res.2.2.2.2.2 f_coefficients f_steps f_roots f_ups f_highs f_lowWeights f_highWeights) res.1 := by
  refine pq_mkI (cc := cX7_pair) (maxL := 4) (RT := .int) (by decide) rfl (Nat.le_of_ble_eq_true rfl) ?_
  intro p e s m args below meth c Q A C hh hret ls hl
  have hx := C.1
  have hb := C.2.1
  have hml := C.2.2.1
  have hown : s.vm.findClass RX7 = some m.cls := C.2.2.2.1
  have hs : ∀ w ∈ wsL_law, w ∈ qsX7_pair := fun _ h => List.mem_cons_of_mem _ h
  have htw : ∀ w ∈ wsL_law, w.before args s = true := fun w h => C.2.2.2.2.1 w (hs w h)
  have hl : lv_has ls 4 [(0, .ref th), (1, .int a1), (2, .int a2), (3, .int a3)] := hl
  have i7 : ∀ w ∈ wsX70, w ∈ qsX7_pair := fun w h => hs w (pq_i7 w h)
  have kc9 := htw (.constant RX7 9 (-100000)) (pq_m3 _ (List.mem_of_getElem? (i := 20) rfl))
  have kf114 := htw (.fieldLink RX7 114 "VoiceDeskModel" "told" "I") (pq_m6 _ (List.mem_of_getElem? (i := 17) rfl))
  rw [fX7_pair] at hf
  refine lv_aload_n hx hb dX7_pair_0 rfl (lv_at hl 0 rfl) ?_
  refine lv_iconst (v := (0 : Int32)) hx hb dX7_pair_1 (by decide) ?_
  refine pq_put (ty := .int) (v := .int (0 : Int32)) C hh i7 tyX7 tyX7_ok nmX7 0 6 rfl rfl 0 (by decide) kf114 rfl rfl (by decide +kernel) rfl rfl (Nat.le_of_ble_eq_true rfl) dX7_pair_2 (fun H locs (hh : pq_H D A s (wX7_pair cI th ad (0 : Int32) c_sumZ c_sumE c_stepY c_odd c_even c_taped c_outs c_isFound f_kinds f_bands f_sieve f_coefficients f_steps f_roots f_ups f_highs f_lowWeights f_highWeights) H locs) => ?_)
  refine lv_aload_n hx hb dX7_pair_5 rfl (lv_at hl 0 rfl) ?_
  refine lv_iload_n hx hb dX7_pair_6 rfl (lv_at hl 1 rfl) ?_
  obtain ⟨r1, hu2, hf⟩ := pq_clx hf
  refine pq_cvI (n := 1) (As := [.int a1]) C hh (qX7_isOpen l D cI cL th ad (0 : Int32) c_sumZ c_sumE c_stepY c_odd c_even c_taped c_outs c_isFound f_kinds a1 r1 hu2) (gvX7_isOpen hs (pq_m15 _ (List.mem_of_getElem? (i := 16) rfl))) rfl (by decide +kernel) ⟨Nat.le_of_ble_eq_true rfl, Nat.le_of_ble_eq_true rfl⟩ 0 6 rfl rfl rfl hl.1 rfl rfl (Nat.le_of_ble_eq_true rfl) dX7_pair_7 ⟨Nat.zero_le _, Nat.zero_le _⟩ [0, 1] [2, 3, 4, 5, 6, 7, 8, 9, 10] [9, 10, 0, 1, 2, 3, 4, 5, 6, 7, 8] rfl rfl (by decide) (by decide) (by decide) rfl (fun H locs (hh : pq_H D A s (wX7_pair cI th ad (0 : Int32) c_sumZ c_sumE c_stepY c_odd c_even c_taped c_outs c_isFound f_kinds f_bands f_sieve f_coefficients f_steps f_roots f_ups f_highs f_lowWeights f_highWeights) H locs) => ?_)
  refine lv_if_eq (tgt := 37) hx hb dX7_pair_10 (by decide) (fun h3 => ?_) (fun h3 => ?_)
  · have hf := pq_brt hf h3
    refine lv_ldc (v := (-100000 : Int32)) hx hb hown kc9 dX7_pair_37 ?_
    obtain rfl := Option.some.inj hf
    exact hret _ _ _ ls hh dX7_pair_39 rfl
  · have hf := pq_brf hf h3
    refine lv_aload_n hx hb dX7_pair_13 rfl (lv_at hl 0 rfl) ?_
    refine lv_iload_n hx hb dX7_pair_14 rfl (lv_at hl 1 rfl) ?_
    obtain ⟨r4, hu5, hf⟩ := pq_clx hf
    refine pq_cvI (n := 1) (As := [.int a1]) C hh (qX7_isPaired l D cI cL th ad (0 : Int32) c_sumZ c_sumE c_stepY c_odd c_even c_taped c_outs c_isFound f_kinds a1 r4 hu5) (gvX7_isPaired hs (pq_m15 _ (List.mem_of_getElem? (i := 20) rfl))) rfl (by decide +kernel) ⟨Nat.le_of_ble_eq_true rfl, Nat.le_of_ble_eq_true rfl⟩ 0 6 rfl rfl rfl hl.1 rfl rfl (Nat.le_of_ble_eq_true rfl) dX7_pair_15 ⟨Nat.zero_le _, Nat.zero_le _⟩ [0, 1] [2, 3, 4, 5, 6, 7, 8, 9, 10] [9, 10, 0, 1, 2, 3, 4, 5, 6, 7, 8] rfl rfl (by decide) (by decide) (by decide) rfl (fun H locs (hh : pq_H D A s (wX7_pair cI th ad (0 : Int32) c_sumZ c_sumE c_stepY c_odd c_even c_taped c_outs c_isFound f_kinds f_bands f_sieve f_coefficients f_steps f_roots f_ups f_highs f_lowWeights f_highWeights) H locs) => ?_)
    refine lv_if_eq (tgt := 37) hx hb dX7_pair_18 (by decide) (fun h6 => ?_) (fun h6 => ?_)
    · have hf := pq_brt hf h6
      refine lv_ldc (v := (-100000 : Int32)) hx hb hown kc9 dX7_pair_37 ?_
      obtain rfl := Option.some.inj hf
      exact hret _ _ _ ls hh dX7_pair_39 rfl
    · have hf := pq_brf hf h6
      refine lv_aload_n hx hb dX7_pair_21 rfl (lv_at hl 0 rfl) ?_
      refine lv_iload_n hx hb dX7_pair_22 rfl (lv_at hl 2 rfl) ?_
      obtain ⟨r7, hu8, hf⟩ := pq_clx hf
      refine pq_cvI (n := 1) (As := [.int a2]) C hh (qX7_isSample l D cI cL th a2 r7 hu8) (gvX7_isSample hs (pq_m16 _ (List.mem_of_getElem? (i := 0) rfl))) rfl (by decide +kernel) ⟨Nat.le_of_ble_eq_true rfl, Nat.le_of_ble_eq_true rfl⟩ 0 6 rfl rfl rfl hl.1 rfl rfl (Nat.le_of_ble_eq_true rfl) dX7_pair_23 ⟨Nat.zero_le _, Nat.zero_le _⟩ [] [0, 1, 2, 3, 4, 5, 6, 7, 8, 9, 10] [0, 1, 2, 3, 4, 5, 6, 7, 8, 9, 10] rfl rfl (by decide) (by decide) (by decide) rfl (fun H locs (hh : pq_H D A s (wX7_pair cI th ad (0 : Int32) c_sumZ c_sumE c_stepY c_odd c_even c_taped c_outs c_isFound f_kinds f_bands f_sieve f_coefficients f_steps f_roots f_ups f_highs f_lowWeights f_highWeights) H locs) => ?_)
      refine lv_if_eq (tgt := 37) hx hb dX7_pair_26 (by decide) (fun h9 => ?_) (fun h9 => ?_)
      · have hf := pq_brt hf h9
        refine lv_ldc (v := (-100000 : Int32)) hx hb hown kc9 dX7_pair_37 ?_
        obtain rfl := Option.some.inj hf
        exact hret _ _ _ ls hh dX7_pair_39 rfl
      · have hf := pq_brf hf h9
        refine lv_aload_n hx hb dX7_pair_29 rfl (lv_at hl 0 rfl) ?_
        refine lv_iload_n hx hb dX7_pair_30 rfl (lv_at hl 3 rfl) ?_
        obtain ⟨r10, hu11, hf⟩ := pq_clx hf
        refine pq_cvI (n := 1) (As := [.int a3]) C hh (qX7_isSample l D cI cL th a3 r10 hu11) (gvX7_isSample hs (pq_m16 _ (List.mem_of_getElem? (i := 0) rfl))) rfl (by decide +kernel) ⟨Nat.le_of_ble_eq_true rfl, Nat.le_of_ble_eq_true rfl⟩ 0 6 rfl rfl rfl hl.1 rfl rfl (Nat.le_of_ble_eq_true rfl) dX7_pair_31 ⟨Nat.zero_le _, Nat.zero_le _⟩ [] [0, 1, 2, 3, 4, 5, 6, 7, 8, 9, 10] [0, 1, 2, 3, 4, 5, 6, 7, 8, 9, 10] rfl rfl (by decide) (by decide) (by decide) rfl (fun H locs (hh : pq_H D A s (wX7_pair cI th ad (0 : Int32) c_sumZ c_sumE c_stepY c_odd c_even c_taped c_outs c_isFound f_kinds f_bands f_sieve f_coefficients f_steps f_roots f_ups f_highs f_lowWeights f_highWeights) H locs) => ?_)
        refine lv_if_ne (tgt := 40) hx hb dX7_pair_34 (by decide) (fun h12 => ?_) (fun h12 => ?_)
        · have hf := pq_brf hf h12
          refine lv_aload_n hx hb dX7_pair_40 rfl (lv_at hl 0 rfl) ?_
          refine lv_iconst (v := (2 : Int32)) hx hb dX7_pair_41 (by decide) ?_
          refine lv_iload_n hx hb dX7_pair_42 rfl (lv_at hl 1 rfl) ?_
          refine lv_imul hx hb dX7_pair_43 ?_
          refine lv_iload_n hx hb dX7_pair_44 rfl (lv_at hl 2 rfl) ?_
          refine lv_iload_n hx hb dX7_pair_45 rfl (lv_at hl 3 rfl) ?_
          obtain ⟨⟨r13, c14, c15, f16, f17⟩, hu18, hf⟩ := pq_clx hf
          have hf := pq_nmx hf r13 rfl
          have hf := pq_nmx hf c14 rfl
          have hf := pq_nmx hf c15 rfl
          have hf := pq_nmx hf f16 rfl
          have hf := pq_nmx hf f17 rfl
          refine pq_cvI (n := 3) (As := [.int ((2 : Int32) * a1), .int a2, .int a3]) C hh (qX7_says722 l D cI cL th ad (0 : Int32) c_sumZ c_sumE c_stepY c_odd c_even c_taped c_outs c_isFound f_bands f_sieve f_coefficients f_steps f_roots f_ups f_highs f_lowWeights f_highWeights ((2 : Int32) * a1) a2 a3 (r13, c14, c15, f16, f17) hu18) (gvX7_says722 hs (pq_m19 _ (List.mem_of_getElem? (i := 23) rfl))) rfl (by decide +kernel) ⟨Nat.le_of_ble_eq_true rfl, Nat.le_of_ble_eq_true rfl⟩ 0 6 rfl rfl rfl hl.1 rfl rfl (Nat.le_of_ble_eq_true rfl) dX7_pair_46 ⟨Nat.zero_le _, Nat.zero_le _⟩ [0, 2, 3, 4, 5, 6, 7, 8, 9, 10] [1] [1, 0, 2, 3, 4, 5, 6, 7, 8, 9, 10] rfl rfl (by decide) (by decide) (by decide) rfl (fun H locs (hh : pq_H D A s (wX7_pair cI th ad (0 : Int32) c_sumZ c_sumE c_stepY c14 c15 c_taped c_outs c_isFound f_kinds f16 f17 f_coefficients f_steps f_roots f_ups f_highs f_lowWeights f_highWeights) H locs) => ?_)
          obtain rfl := Option.some.inj hf
          exact hret _ _ _ ls hh dX7_pair_49 rfl
        · have hf := pq_brt hf h12
          refine lv_ldc (v := (-100000 : Int32)) hx hb hown kc9 dX7_pair_37 ?_
          obtain rfl := Option.some.inj hf
          exact hret _ _ _ ls hh dX7_pair_39 rfl
set_option maxHeartbeats 4000000 in
set_option maxRecDepth 100000 in
theorem qX7_isCode (l : Launch) (D : va_G) (cI cL : ClassId) (th : Nat) (ad : Nat → Nat) (c_told : Int32) (c_sumZ : Int32) (c_sumE : Int32) (c_stepY : Int32) (c_odd : Int32) (c_even : Int32) (c_taped : Int32) (c_outs : Int32) (c_isFound : Int32) (f_kinds : Nat → Int32) (a1 : Int32) (a2 : Int32) (res : Int32) (hf : fX7_isCode a1 a2 f_kinds = some res) : pq_CI l yX7_isCode qsX7_isCode 1 21 D cI cL [.ref th, .int a1, .int a2] (wX7_isCode cI th ad c_told c_sumZ c_sumE c_stepY c_odd c_even c_taped c_outs c_isFound f_kinds) (wX7_isCode cI th ad c_told c_sumZ c_sumE c_stepY c_odd c_even c_taped c_outs c_isFound f_kinds) res := by
  refine pq_mkI (cc := cX7_isCode) (maxL := 3) (RT := .boolean) (by decide) rfl (Nat.le_of_ble_eq_true rfl) ?_
  intro p e s m args below meth c Q A C hh hret ls hl
  have hx := C.1
  have hb := C.2.1
  have hml := C.2.2.1
  have hown : s.vm.findClass RX7 = some m.cls := C.2.2.2.1
  have hs : ∀ w ∈ wsL_law, w ∈ qsX7_isCode := fun _ h => List.mem_cons_of_mem _ h
  have htw : ∀ w ∈ wsL_law, w.before args s = true := fun w h => C.2.2.2.2.1 w (hs w h)
  have hl : lv_has ls 3 [(0, .ref th), (1, .int a1), (2, .int a2)] := hl
  rw [fX7_isCode] at hf
  refine lv_iload_n hx hb dX7_isCode_0 rfl (lv_at hl 2 rfl) ?_
  refine lv_if_lt (tgt := 19) hx hb dX7_isCode_1 (by decide) (fun h1 => ?_) (fun h1 => ?_)
  · have hf := pq_brt hf h1
    refine lv_iconst (v := (0 : Int32)) hx hb dX7_isCode_19 (by decide) ?_
    obtain rfl := Option.some.inj hf
    exact hret _ _ _ ls hh dX7_isCode_20 (pq_nb0 rfl)
  · have hf := pq_brf hf h1
    refine lv_iload_n hx hb dX7_isCode_4 rfl (lv_at hl 2 rfl) ?_
    refine lv_iconst (v := (1 : Int32)) hx hb dX7_isCode_5 (by decide) ?_
    refine lv_aload_n hx hb dX7_isCode_6 rfl (lv_at hl 0 rfl) ?_
    refine lv_iload_n hx hb dX7_isCode_7 rfl (lv_at hl 1 rfl) ?_
    obtain ⟨r2, hu3, hf⟩ := pq_clx hf
    refine pq_cvI (n := 1) (As := [.int a1]) C hh (qX7_bitsOf l D cI cL th ad c_told c_sumZ c_sumE c_stepY c_odd c_even c_taped c_outs c_isFound f_kinds a1 r2 hu3) (gvX7_bitsOf hs (pq_m22 _ (List.mem_of_getElem? (i := 20) rfl))) rfl (by decide +kernel) ⟨Nat.le_of_ble_eq_true rfl, Nat.le_of_ble_eq_true rfl⟩ 0 6 rfl rfl rfl hl.1 rfl rfl (Nat.le_of_ble_eq_true rfl) dX7_isCode_8 ⟨Nat.zero_le _, Nat.zero_le _⟩ [0, 1] [] [0, 1] rfl rfl (by decide) (by decide) (by decide) rfl (fun H locs (hh : pq_H D A s (wX7_isCode cI th ad c_told c_sumZ c_sumE c_stepY c_odd c_even c_taped c_outs c_isFound f_kinds) H locs) => ?_)
    refine lv_ishl hx hb dX7_isCode_11 ?_
    refine lv_icmp_ge (tgt := 19) hx hb dX7_isCode_12 (by decide) (fun h4 => ?_) (fun h4 => ?_)
    · have hf := pq_brt hf h4
      refine lv_iconst (v := (0 : Int32)) hx hb dX7_isCode_19 (by decide) ?_
      obtain rfl := Option.some.inj hf
      exact hret _ _ _ ls hh dX7_isCode_20 (pq_nb0 rfl)
    · have hf := pq_brf hf h4
      refine lv_iconst (v := (1 : Int32)) hx hb dX7_isCode_15 (by decide) ?_
      refine lv_goto (tgt := 20) hx hb dX7_isCode_16 (by decide) ?_
      obtain rfl := Option.some.inj hf
      exact hret _ _ _ ls hh dX7_isCode_20 (pq_nb1 rfl)
