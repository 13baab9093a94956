set_option maxHeartbeats 4000000 in
set_option maxRecDepth 100000 in
theorem qX7_pass (l : Launch) (D : va_G) (cI cL : ClassId) (th : Nat) (ad : Nat → Nat) (c_told : Int32) (c_sumZ : Int32) (c_sumE : Int32) (c_stepY : Int32) (c_odd : Int32) (c_even : Int32) (c_taped : Int32) (c_outs : Int32) (c_isFound : Int32) (f_kinds : Nat → Int32) (f_seconds : Nat → Int32) (f_g : Nat → Int32) (f_bounds2 : Nat → Int32) (f_bounds3 : Nat → Int32) (f_bounds4 : Nat → Int32) (f_bounds5 : Nat → Int32) (f_table2 : Nat → Int32) (f_table3 : Nat → Int32) (f_table4 : Nat → Int32) (f_table5 : Nat → Int32) (f_weight2 : Nat → Int32) (f_weight3 : Nat → Int32) (f_weight4 : Nat → Int32) (f_weight5 : Nat → Int32) (f_pace2 : Nat → Int32) (f_pace3 : Nat → Int32) (f_pace4 : Nat → Int32) (f_pace5 : Nat → Int32) (f_bands : Nat → Int32) (f_sieve : Nat → Int32) (f_coefficients : Nat → Int32) (f_steps : Nat → Int32) (f_roots : Nat → Int32) (f_ups : Nat → Int32) (f_highs : Nat → Int32) (f_lowWeights : Nat → Int32) (f_highWeights : Nat → Int32) (f_heard56 : Nat → Int32) (f_heard64 : Nat → Int32) (a1 : Int32) (a2 : Int32) (a3 : Int32) (res : Int32 × Int32 × Int32 × Int32 × Int32 × Int32 × Int32 × (Nat → Int32) × (Nat → Int32) × (Nat → Int32) × (Nat → Int32)) (hf : fX7_pass a1 a2 a3 f_kinds f_bounds2 f_bounds3 f_bounds4 f_bounds5 f_table2 f_table3 f_table4 f_table5 f_weight2 f_weight3 f_weight4 f_weight5 f_pace2 f_pace3 f_pace4 f_pace5 f_coefficients f_steps f_roots f_ups f_highs f_lowWeights f_highWeights f_heard56 f_heard64 c_told c_sumZ c_sumE c_stepY c_odd c_even f_seconds f_g f_bands f_sieve = some res) : pq_CI l yX7_pass qsX7_pass 5 139 D cI cL [.ref th, .int a1, .int a2, .int a3] (wX7_pass cI th ad c_told c_sumZ c_sumE c_stepY c_odd c_even c_taped c_outs c_isFound f_kinds f_seconds f_g f_bounds2 f_bounds3 f_bounds4 f_bounds5 f_table2 f_table3 f_table4 f_table5 f_weight2 f_weight3 f_weight4 f_weight5 f_pace2 f_pace3 f_pace4 f_pace5 f_bands f_sieve f_coefficients f_steps f_roots f_ups f_highs f_lowWeights f_highWeights f_heard56 f_heard64) (wX7_pass cI th ad res.2.1 res.2.2.1 res.2.2.2.1 res.2.2.2.2.1 res.2.2.2.2.2.1 res.2.2.2.2.2.2.1 c_taped c_outs c_isFound f_kinds res.2.2.2.2.2.2.2.1 res.2.2.2.2.2.2.2.2.1 f_bounds2 f_bounds3 f_bounds4 f_bounds5 f_table2 f_table3 f_table4 f_table5 f_weight2 f_weight3 f_weight4 f_weight5 f_pace2 f_pace3 f_pace4 f_pace5 res.2.2.2.2.2.2.2.2.2.1 res.2.2.2.2.2.2.2.2.2.2 f_coefficients f_steps f_roots f_ups f_highs f_lowWeights f_highWeights f_heard56 f_heard64) res.1 := by
  refine pq_mkI (cc := cX7_pass) (maxL := 5) (RT := .int) (by decide) rfl (Nat.le_of_ble_eq_true rfl) ?_
  intro p e s m args below meth c Q A C hh hret ls hl
  have hx := C.1
  have hb := C.2.1
  have hml := C.2.2.1
  have hown : s.vm.findClass RX7 = some m.cls := C.2.2.2.1
  have hs : ∀ w ∈ wsL_law, w ∈ qsX7_pass := fun _ h => List.mem_cons_of_mem _ h
  have htw : ∀ w ∈ wsL_law, w.before args s = true := fun w h => C.2.2.2.2.1 w (hs w h)
  have hl : lv_has ls 5 [(0, .ref th), (1, .int a1), (2, .int a2), (3, .int a3)] := hl
  have i7 : ∀ w ∈ wsX70, w ∈ qsX7_pass := fun w h => hs w (pq_i7 w h)
  have kc9 := htw (.constant RX7 9 (-100000)) (pq_m3 _ (List.mem_of_getElem? (i := 20) rfl))
  have kf114 := htw (.fieldLink RX7 114 "VoiceDeskModel" "told" "I") (pq_m6 _ (List.mem_of_getElem? (i := 17) rfl))
  have kf14 := htw (.fieldLink RX7 14 "VoiceDeskModel" "seconds" "[I") (pq_m3 _ (List.mem_of_getElem? (i := 22) rfl))
  rw [fX7_pass] at hf
  refine lv_aload_n hx hb dX7_pass_0 rfl (lv_at hl 0 rfl) ?_
  refine lv_iconst (v := (0 : Int32)) hx hb dX7_pass_1 (by decide) ?_
  refine pq_put (ty := .int) (v := .int (0 : Int32)) C hh i7 tyX7 tyX7_ok nmX7 0 6 rfl rfl 0 (by decide) kf114 rfl rfl (by decide +kernel) rfl rfl (Nat.le_of_ble_eq_true rfl) dX7_pass_2 (fun H locs (hh : pq_H D A s (wX7_pass cI th ad (0 : Int32) c_sumZ c_sumE c_stepY c_odd c_even c_taped c_outs c_isFound f_kinds f_seconds f_g f_bounds2 f_bounds3 f_bounds4 f_bounds5 f_table2 f_table3 f_table4 f_table5 f_weight2 f_weight3 f_weight4 f_weight5 f_pace2 f_pace3 f_pace4 f_pace5 f_bands f_sieve f_coefficients f_steps f_roots f_ups f_highs f_lowWeights f_highWeights f_heard56 f_heard64) H locs) => ?_)
  refine lv_aload_n hx hb dX7_pass_5 rfl (lv_at hl 0 rfl) ?_
  refine lv_iload_n hx hb dX7_pass_6 rfl (lv_at hl 1 rfl) ?_
  obtain ⟨r1, hu2, hf⟩ := pq_clx hf
  refine pq_cvI (n := 1) (As := [.int a1]) C hh (qX7_isOpen l D cI cL th ad (0 : Int32) c_sumZ c_sumE c_stepY c_odd c_even c_taped c_outs c_isFound f_kinds a1 r1 hu2) (gvX7_isOpen hs (pq_m15 _ (List.mem_of_getElem? (i := 16) rfl))) rfl (by decide +kernel) ⟨Nat.le_of_ble_eq_true rfl, Nat.le_of_ble_eq_true rfl⟩ 0 6 rfl rfl rfl hl.1 rfl rfl (Nat.le_of_ble_eq_true rfl) dX7_pass_7 ⟨Nat.zero_le _, Nat.zero_le _⟩ [0, 1] [2, 3, 4, 5, 6, 7, 8, 9, 10, 11, 12, 13, 14, 15, 16, 17, 18, 19, 20, 21, 22, 23, 24, 25, 26, 27, 28, 29, 30] [29, 30, 0, 1, 2, 3, 4, 5, 6, 7, 8, 9, 10, 11, 12, 13, 14, 15, 16, 17, 18, 19, 20, 21, 22, 23, 24, 25, 26, 27, 28] rfl rfl (by decide) (by decide) (by decide) rfl (fun H locs (hh : pq_H D A s (wX7_pass cI th ad (0 : Int32) c_sumZ c_sumE c_stepY c_odd c_even c_taped c_outs c_isFound f_kinds f_seconds f_g f_bounds2 f_bounds3 f_bounds4 f_bounds5 f_table2 f_table3 f_table4 f_table5 f_weight2 f_weight3 f_weight4 f_weight5 f_pace2 f_pace3 f_pace4 f_pace5 f_bands f_sieve f_coefficients f_steps f_roots f_ups f_highs f_lowWeights f_highWeights f_heard56 f_heard64) H locs) => ?_)
  refine lv_if_eq (tgt := 43) hx hb dX7_pass_10 (by decide) (fun h3 => ?_) (fun h3 => ?_)
  · have hf := pq_brt hf h3
    refine lv_ldc (v := (-100000 : Int32)) hx hb hown kc9 dX7_pass_43 ?_
    obtain rfl := Option.some.inj hf
    exact hret _ _ _ ls hh dX7_pass_45 rfl
  · have hf := pq_brf hf h3
    refine lv_aload_n hx hb dX7_pass_13 rfl (lv_at hl 0 rfl) ?_
    refine lv_iload_n hx hb dX7_pass_14 rfl (lv_at hl 1 rfl) ?_
    refine lv_iload_n hx hb dX7_pass_15 rfl (lv_at hl 3 rfl) ?_
    obtain ⟨r4, hu5, hf⟩ := pq_clx hf
    refine pq_cvI (n := 2) (As := [.int a1, .int a3]) C hh (qX7_isCode l D cI cL th ad (0 : Int32) c_sumZ c_sumE c_stepY c_odd c_even c_taped c_outs c_isFound f_kinds a1 a3 r4 hu5) (gvX7_isCode hs (pq_m22 _ (List.mem_of_getElem? (i := 16) rfl))) rfl (by decide +kernel) ⟨Nat.le_of_ble_eq_true rfl, Nat.le_of_ble_eq_true rfl⟩ 0 6 rfl rfl rfl hl.1 rfl rfl (Nat.le_of_ble_eq_true rfl) dX7_pass_16 ⟨Nat.zero_le _, Nat.zero_le _⟩ [0, 1] [2, 3, 4, 5, 6, 7, 8, 9, 10, 11, 12, 13, 14, 15, 16, 17, 18, 19, 20, 21, 22, 23, 24, 25, 26, 27, 28, 29, 30] [29, 30, 0, 1, 2, 3, 4, 5, 6, 7, 8, 9, 10, 11, 12, 13, 14, 15, 16, 17, 18, 19, 20, 21, 22, 23, 24, 25, 26, 27, 28] rfl rfl (by decide) (by decide) (by decide) rfl (fun H locs (hh : pq_H D A s (wX7_pass cI th ad (0 : Int32) c_sumZ c_sumE c_stepY c_odd c_even c_taped c_outs c_isFound f_kinds f_seconds f_g f_bounds2 f_bounds3 f_bounds4 f_bounds5 f_table2 f_table3 f_table4 f_table5 f_weight2 f_weight3 f_weight4 f_weight5 f_pace2 f_pace3 f_pace4 f_pace5 f_bands f_sieve f_coefficients f_steps f_roots f_ups f_highs f_lowWeights f_highWeights f_heard56 f_heard64) H locs) => ?_)
    refine lv_if_eq (tgt := 43) hx hb dX7_pass_19 (by decide) (fun h6 => ?_) (fun h6 => ?_)
    · have hf := pq_brt hf h6
      refine lv_ldc (v := (-100000 : Int32)) hx hb hown kc9 dX7_pass_43 ?_
      obtain rfl := Option.some.inj hf
      exact hret _ _ _ ls hh dX7_pass_45 rfl
    · have hf := pq_brf hf h6
      refine lv_aload_n hx hb dX7_pass_22 rfl (lv_at hl 0 rfl) ?_
      refine lv_iload_n hx hb dX7_pass_23 rfl (lv_at hl 2 rfl) ?_
      obtain ⟨r7, hu8, hf⟩ := pq_clx hf
      refine pq_cvI (n := 1) (As := [.int a2]) C hh (qX7_isOpen l D cI cL th ad (0 : Int32) c_sumZ c_sumE c_stepY c_odd c_even c_taped c_outs c_isFound f_kinds a2 r7 hu8) (gvX7_isOpen hs (pq_m15 _ (List.mem_of_getElem? (i := 16) rfl))) rfl (by decide +kernel) ⟨Nat.le_of_ble_eq_true rfl, Nat.le_of_ble_eq_true rfl⟩ 0 6 rfl rfl rfl hl.1 rfl rfl (Nat.le_of_ble_eq_true rfl) dX7_pass_24 ⟨Nat.zero_le _, Nat.zero_le _⟩ [0, 1] [2, 3, 4, 5, 6, 7, 8, 9, 10, 11, 12, 13, 14, 15, 16, 17, 18, 19, 20, 21, 22, 23, 24, 25, 26, 27, 28, 29, 30] [29, 30, 0, 1, 2, 3, 4, 5, 6, 7, 8, 9, 10, 11, 12, 13, 14, 15, 16, 17, 18, 19, 20, 21, 22, 23, 24, 25, 26, 27, 28] rfl rfl (by decide) (by decide) (by decide) rfl (fun H locs (hh : pq_H D A s (wX7_pass cI th ad (0 : Int32) c_sumZ c_sumE c_stepY c_odd c_even c_taped c_outs c_isFound f_kinds f_seconds f_g f_bounds2 f_bounds3 f_bounds4 f_bounds5 f_table2 f_table3 f_table4 f_table5 f_weight2 f_weight3 f_weight4 f_weight5 f_pace2 f_pace3 f_pace4 f_pace5 f_bands f_sieve f_coefficients f_steps f_roots f_ups f_highs f_lowWeights f_highWeights f_heard56 f_heard64) H locs) => ?_)
      refine lv_if_eq (tgt := 43) hx hb dX7_pass_27 (by decide) (fun h9 => ?_) (fun h9 => ?_)
      · have hf := pq_brt hf h9
        refine lv_ldc (v := (-100000 : Int32)) hx hb hown kc9 dX7_pass_43 ?_
        obtain rfl := Option.some.inj hf
        exact hret _ _ _ ls hh dX7_pass_45 rfl
      · have hf := pq_brf hf h9
        refine lv_aload_n hx hb dX7_pass_30 rfl (lv_at hl 0 rfl) ?_
        refine lv_iload_n hx hb dX7_pass_31 rfl (lv_at hl 1 rfl) ?_
        obtain ⟨r10, hu11, hf⟩ := pq_clx hf
        refine pq_cvI (n := 1) (As := [.int a1]) C hh (qX7_isPaired l D cI cL th ad (0 : Int32) c_sumZ c_sumE c_stepY c_odd c_even c_taped c_outs c_isFound f_kinds a1 r10 hu11) (gvX7_isPaired hs (pq_m15 _ (List.mem_of_getElem? (i := 20) rfl))) rfl (by decide +kernel) ⟨Nat.le_of_ble_eq_true rfl, Nat.le_of_ble_eq_true rfl⟩ 0 6 rfl rfl rfl hl.1 rfl rfl (Nat.le_of_ble_eq_true rfl) dX7_pass_32 ⟨Nat.zero_le _, Nat.zero_le _⟩ [0, 1] [2, 3, 4, 5, 6, 7, 8, 9, 10, 11, 12, 13, 14, 15, 16, 17, 18, 19, 20, 21, 22, 23, 24, 25, 26, 27, 28, 29, 30] [29, 30, 0, 1, 2, 3, 4, 5, 6, 7, 8, 9, 10, 11, 12, 13, 14, 15, 16, 17, 18, 19, 20, 21, 22, 23, 24, 25, 26, 27, 28] rfl rfl (by decide) (by decide) (by decide) rfl (fun H locs (hh : pq_H D A s (wX7_pass cI th ad (0 : Int32) c_sumZ c_sumE c_stepY c_odd c_even c_taped c_outs c_isFound f_kinds f_seconds f_g f_bounds2 f_bounds3 f_bounds4 f_bounds5 f_table2 f_table3 f_table4 f_table5 f_weight2 f_weight3 f_weight4 f_weight5 f_pace2 f_pace3 f_pace4 f_pace5 f_bands f_sieve f_coefficients f_steps f_roots f_ups f_highs f_lowWeights f_highWeights f_heard56 f_heard64) H locs) => ?_)
        refine lv_aload_n hx hb dX7_pass_35 rfl (lv_at hl 0 rfl) ?_
        refine lv_iload_n hx hb dX7_pass_36 rfl (lv_at hl 2 rfl) ?_
        obtain ⟨r12, hu13, hf⟩ := pq_clx hf
        refine pq_cvI (n := 1) (As := [.int a2]) C hh (qX7_isPaired l D cI cL th ad (0 : Int32) c_sumZ c_sumE c_stepY c_odd c_even c_taped c_outs c_isFound f_kinds a2 r12 hu13) (gvX7_isPaired hs (pq_m15 _ (List.mem_of_getElem? (i := 20) rfl))) rfl (by decide +kernel) ⟨Nat.le_of_ble_eq_true rfl, Nat.le_of_ble_eq_true rfl⟩ 0 6 rfl rfl rfl hl.1 rfl rfl (Nat.le_of_ble_eq_true rfl) dX7_pass_37 ⟨Nat.zero_le _, Nat.zero_le _⟩ [0, 1] [2, 3, 4, 5, 6, 7, 8, 9, 10, 11, 12, 13, 14, 15, 16, 17, 18, 19, 20, 21, 22, 23, 24, 25, 26, 27, 28, 29, 30] [29, 30, 0, 1, 2, 3, 4, 5, 6, 7, 8, 9, 10, 11, 12, 13, 14, 15, 16, 17, 18, 19, 20, 21, 22, 23, 24, 25, 26, 27, 28] rfl rfl (by decide) (by decide) (by decide) rfl (fun H locs (hh : pq_H D A s (wX7_pass cI th ad (0 : Int32) c_sumZ c_sumE c_stepY c_odd c_even c_taped c_outs c_isFound f_kinds f_seconds f_g f_bounds2 f_bounds3 f_bounds4 f_bounds5 f_table2 f_table3 f_table4 f_table5 f_weight2 f_weight3 f_weight4 f_weight5 f_pace2 f_pace3 f_pace4 f_pace5 f_bands f_sieve f_coefficients f_steps f_roots f_ups f_highs f_lowWeights f_highWeights f_heard56 f_heard64) H locs) => ?_)
        refine lv_icmp_eq (tgt := 46) hx hb dX7_pass_40 (by decide) (fun h14 => ?_) (fun h14 => ?_)
        · have hf := pq_brt hf h14
          refine lv_aload_n hx hb dX7_pass_46 rfl (lv_at hl 0 rfl) ?_
          refine lv_iload_n hx hb dX7_pass_47 rfl (lv_at hl 1 rfl) ?_
          refine lv_iload_n hx hb dX7_pass_48 rfl (lv_at hl 3 rfl) ?_
          obtain ⟨⟨r15, c16, c17, c18, c19, c20, f21, f22, f23, f24⟩, hu25, hf⟩ := pq_clx hf
          have hf := pq_nmx hf r15 rfl
          have hf := pq_nmx hf c16 rfl
          have hf := pq_nmx hf c17 rfl
          have hf := pq_nmx hf c18 rfl
          have hf := pq_nmx hf c19 rfl
          have hf := pq_nmx hf c20 rfl
          have hf := pq_nmx hf f21 rfl
          have hf := pq_nmx hf f22 rfl
          have hf := pq_nmx hf f23 rfl
          have hf := pq_nmx hf f24 rfl
          refine pq_cvI (n := 2) (As := [.int a1, .int a3]) C hh (qX7_hears l D cI cL th ad (0 : Int32) c_sumZ c_sumE c_stepY c_odd c_even c_taped c_outs c_isFound f_kinds f_seconds f_g f_table2 f_table3 f_table4 f_table5 f_weight2 f_weight3 f_weight4 f_weight5 f_pace2 f_pace3 f_pace4 f_pace5 f_bands f_sieve f_coefficients f_roots f_ups f_highs f_lowWeights f_highWeights f_heard56 f_heard64 a1 a3 (r15, c16, c17, c18, c19, c20, f21, f22, f23, f24) hu25) (gvX7_hears hs (pq_m23 _ (List.mem_of_getElem? (i := 0) rfl))) rfl (by decide +kernel) ⟨Nat.le_of_ble_eq_true rfl, Nat.le_of_ble_eq_true rfl⟩ 0 6 rfl rfl rfl hl.1 rfl rfl (Nat.le_of_ble_eq_true rfl) dX7_pass_49 ⟨Nat.zero_le _, Nat.zero_le _⟩ [0, 1, 2, 3, 8, 9, 10, 11, 12, 13, 14, 15, 16, 17, 18, 19, 20, 21, 22, 24, 25, 26, 27, 28, 29, 30] [4, 5, 6, 7, 23] [5, 6, 7, 8, 0, 1, 2, 3, 9, 10, 11, 12, 13, 14, 15, 16, 17, 18, 19, 20, 21, 22, 23, 4, 24, 25, 26, 27, 28, 29, 30] rfl rfl (by decide) (by decide) (by decide) rfl (fun H locs (hh : pq_H D A s (wX7_pass cI th ad (0 : Int32) c16 c17 c18 c19 c20 c_taped c_outs c_isFound f_kinds f21 f22 f_bounds2 f_bounds3 f_bounds4 f_bounds5 f_table2 f_table3 f_table4 f_table5 f_weight2 f_weight3 f_weight4 f_weight5 f_pace2 f_pace3 f_pace4 f_pace5 f23 f24 f_coefficients f_steps f_roots f_ups f_highs f_lowWeights f_highWeights f_heard56 f_heard64) H locs) => ?_)
          refine lv_istore (lv' := [(4, .int r15), (0, .ref th), (1, .int a1), (2, .int a2), (3, .int a3)]) hx hb dX7_pass_52 hl (by decide) rfl (fun ls hl => ?_)
          refine lv_aload_n hx hb dX7_pass_54 rfl (lv_at hl 1 rfl) ?_
          refine lv_iload_n hx hb dX7_pass_55 rfl (lv_at hl 2 rfl) ?_
          obtain ⟨r27, hu28, hf⟩ := pq_clx hf
          refine pq_cvI (n := 1) (As := [.int a1]) C hh (qX7_isPaired l D cI cL th ad (0 : Int32) c16 c17 c18 c19 c20 c_taped c_outs c_isFound f_kinds a1 r27 hu28) (gvX7_isPaired hs (pq_m15 _ (List.mem_of_getElem? (i := 20) rfl))) rfl (by decide +kernel) ⟨Nat.le_of_ble_eq_true rfl, Nat.le_of_ble_eq_true rfl⟩ 0 6 rfl rfl rfl hl.1 rfl rfl (Nat.le_of_ble_eq_true rfl) dX7_pass_56 ⟨Nat.zero_le _, Nat.zero_le _⟩ [0, 1] [2, 3, 4, 5, 6, 7, 8, 9, 10, 11, 12, 13, 14, 15, 16, 17, 18, 19, 20, 21, 22, 23, 24, 25, 26, 27, 28, 29, 30] [29, 30, 0, 1, 2, 3, 4, 5, 6, 7, 8, 9, 10, 11, 12, 13, 14, 15, 16, 17, 18, 19, 20, 21, 22, 23, 24, 25, 26, 27, 28] rfl rfl (by decide) (by decide) (by decide) rfl (fun H locs (hh : pq_H D A s (wX7_pass cI th ad (0 : Int32) c16 c17 c18 c19 c20 c_taped c_outs c_isFound f_kinds f21 f22 f_bounds2 f_bounds3 f_bounds4 f_bounds5 f_table2 f_table3 f_table4 f_table5 f_weight2 f_weight3 f_weight4 f_weight5 f_pace2 f_pace3 f_pace4 f_pace5 f23 f24 f_coefficients f_steps f_roots f_ups f_highs f_lowWeights f_highWeights f_heard56 f_heard64) H locs) => ?_)
          refine lv_if_eq (tgt := 80) hx hb dX7_pass_59 (by decide) (fun h29 => ?_) (fun h29 => ?_)
          · have hf := pq_brt hf h29
            refine lv_aload_n hx hb dX7_pass_80 rfl (lv_at hl 1 rfl) ?_
            refine lv_iload_n hx hb dX7_pass_81 rfl (lv_at hl 3 rfl) ?_
            refine lv_iload hx hb dX7_pass_82 (lv_at hl 0 rfl) ?_
            obtain ⟨⟨r30, c31, c32, c33, f34⟩, hu35, hf⟩ := pq_clx hf
            have hf := pq_nmx hf r30 rfl
            have hf := pq_nmx hf c31 rfl
            have hf := pq_nmx hf c32 rfl
            have hf := pq_nmx hf c33 rfl
            have hf := pq_nmx hf f34 rfl
            refine pq_cvI (n := 2) (As := [.int a2, .int r15]) C hh (qX7_says l D cI cL th ad (0 : Int32) c16 c17 c18 c19 c20 c_taped c_outs c_isFound f_kinds f22 f_bounds2 f_bounds3 f_bounds4 f_bounds5 f_table2 f_table3 f_table4 f_table5 f_weight2 f_weight3 f_weight4 f_weight5 f_pace2 f_pace3 f_pace4 f_pace5 a2 r15 (r30, c31, c32, c33, f34) hu35) (gvX7_says hs (pq_m16 _ (List.mem_of_getElem? (i := 4) rfl))) rfl (by decide +kernel) ⟨Nat.le_of_ble_eq_true rfl, Nat.le_of_ble_eq_true rfl⟩ 0 6 rfl rfl rfl hl.1 rfl rfl (Nat.le_of_ble_eq_true rfl) dX7_pass_84 ⟨Nat.zero_le _, Nat.zero_le _⟩ [0, 1, 3, 4, 5, 6, 7, 8, 9, 10, 11, 12, 13, 14, 15, 16, 17, 18, 19] [2, 20, 21, 22, 23, 24, 25, 26, 27, 28, 29, 30] [12, 13, 0, 14, 15, 16, 17, 18, 19, 20, 21, 22, 23, 24, 25, 26, 27, 28, 29, 30, 1, 2, 3, 4, 5, 6, 7, 8, 9, 10, 11] rfl rfl (by decide) (by decide) (by decide) rfl (fun H locs (hh : pq_H D A s (wX7_pass cI th ad (0 : Int32) c31 c32 c33 c19 c20 c_taped c_outs c_isFound f_kinds f21 f34 f_bounds2 f_bounds3 f_bounds4 f_bounds5 f_table2 f_table3 f_table4 f_table5 f_weight2 f_weight3 f_weight4 f_weight5 f_pace2 f_pace3 f_pace4 f_pace5 f23 f24 f_coefficients f_steps f_roots f_ups f_highs f_lowWeights f_highWeights f_heard56 f_heard64) H locs) => ?_)
            obtain rfl := Option.some.inj hf
            exact hret _ _ _ ls hh dX7_pass_87 rfl
          · have hf := pq_brf hf h29
            refine lv_aload_n hx hb dX7_pass_62 rfl (lv_at hl 1 rfl) ?_
            refine lv_iconst (v := (2 : Int32)) hx hb dX7_pass_63 (by decide) ?_
            refine lv_iload_n hx hb dX7_pass_64 rfl (lv_at hl 3 rfl) ?_
            refine lv_imul hx hb dX7_pass_65 ?_
            refine lv_iload hx hb dX7_pass_66 (lv_at hl 0 rfl) ?_
            refine lv_aload_n hx hb dX7_pass_68 rfl (lv_at hl 1 rfl) ?_
            refine pq_get C hh i7 0 6 rfl rfl 2 (by decide) kf14 rfl rfl dX7_pass_69 ?_
            refine lv_iload_n hx hb dX7_pass_72 rfl (lv_at hl 2 rfl) ?_
            obtain ⟨h37, hf⟩ := pq_rdx hf
            refine pq_iald C hh 2 rfl h37 dX7_pass_73 (fun v38 e39 => ?_)
            have hf := hf v38 e39
            obtain ⟨⟨r40, c41, c42, f43, f44⟩, hu45, hf⟩ := pq_clx hf
            have hf := pq_nmx hf r40 rfl
            have hf := pq_nmx hf c41 rfl
            have hf := pq_nmx hf c42 rfl
            have hf := pq_nmx hf f43 rfl
            have hf := pq_nmx hf f44 rfl
            refine pq_cvI (n := 3) (As := [.int ((2 : Int32) * a2), .int r15, .int v38]) C hh (qX7_says722 l D cI cL th ad (0 : Int32) c16 c17 c18 c19 c20 c_taped c_outs c_isFound f23 f24 f_coefficients f_steps f_roots f_ups f_highs f_lowWeights f_highWeights ((2 : Int32) * a2) r15 v38 (r40, c41, c42, f43, f44) hu45) (gvX7_says722 hs (pq_m19 _ (List.mem_of_getElem? (i := 23) rfl))) rfl (by decide +kernel) ⟨Nat.le_of_ble_eq_true rfl, Nat.le_of_ble_eq_true rfl⟩ 0 6 rfl rfl rfl hl.1 rfl rfl (Nat.le_of_ble_eq_true rfl) dX7_pass_74 ⟨Nat.zero_le _, Nat.zero_le _⟩ [0, 20, 21, 22, 23, 24, 25, 26, 27, 28] [1, 2, 3, 4, 5, 6, 7, 8, 9, 10, 11, 12, 13, 14, 15, 16, 17, 18, 19, 29, 30] [21, 0, 1, 2, 3, 4, 5, 6, 7, 8, 9, 10, 11, 12, 13, 14, 15, 16, 17, 18, 22, 23, 24, 25, 26, 27, 28, 29, 30, 19, 20] rfl rfl (by decide) (by decide) (by decide) rfl (fun H locs (hh : pq_H D A s (wX7_pass cI th ad (0 : Int32) c16 c17 c18 c41 c42 c_taped c_outs c_isFound f_kinds f21 f22 f_bounds2 f_bounds3 f_bounds4 f_bounds5 f_table2 f_table3 f_table4 f_table5 f_weight2 f_weight3 f_weight4 f_weight5 f_pace2 f_pace3 f_pace4 f_pace5 f43 f44 f_coefficients f_steps f_roots f_ups f_highs f_lowWeights f_highWeights f_heard56 f_heard64) H locs) => ?_)
            refine lv_goto (tgt := 87) hx hb dX7_pass_77 (by decide) ?_
            obtain rfl := Option.some.inj hf
            exact hret _ _ _ ls hh dX7_pass_87 rfl
        · have hf := pq_brf hf h14
          refine lv_ldc (v := (-100000 : Int32)) hx hb hown kc9 dX7_pass_43 ?_
          obtain rfl := Option.some.inj hf
          exact hret _ _ _ ls hh dX7_pass_45 rfl
set_option maxHeartbeats 4000000 in
set_option maxRecDepth 100000 in
theorem qX7_finds (l : Launch) (D : va_G) (cI cL : ClassId) (th : Nat) (ad : Nat → Nat) (c_told : Int32) (c_sumZ : Int32) (c_sumE : Int32) (c_stepY : Int32) (c_odd : Int32) (c_even : Int32) (c_taped : Int32) (c_outs : Int32) (c_isFound : Int32) (f_least : Nat → Int32) (f_greatest : Nat → Int32) (res : Int32 × (Nat → Int32) × (Nat → Int32)) (hf : fX7_finds c_isFound f_least f_greatest = some res) : pq_CV l yX7_finds qsX7_finds 2 45 D cI cL [.ref th] (wX7_finds cI th ad c_told c_sumZ c_sumE c_stepY c_odd c_even c_taped c_outs c_isFound f_least f_greatest) (wX7_finds cI th ad c_told c_sumZ c_sumE c_stepY c_odd c_even c_taped c_outs res.1 res.2.1 res.2.2) := by
  refine pq_mkV (cc := cX7_finds) (maxL := 3) (by decide) rfl (Nat.le_of_ble_eq_true rfl) ?_
  intro p e s m args below meth c Q A C hh hret ls hl
  have hx := C.1
  have hb := C.2.1
  have hml := C.2.2.1
  have hown : s.vm.findClass RX7 = some m.cls := C.2.2.2.1
  have hs : ∀ w ∈ wsL_law, w ∈ qsX7_finds := fun _ h => List.mem_cons_of_mem _ h
  have htw : ∀ w ∈ wsL_law, w.before args s = true := fun w h => C.2.2.2.2.1 w (hs w h)
  have hl : lv_has ls 3 [(0, .ref th)] := hl
  have i7 : ∀ w ∈ wsX70, w ∈ qsX7_finds := fun w h => hs w (pq_i7 w h)
  have kc9 := htw (.constant RX7 9 (-100000)) (pq_m3 _ (List.mem_of_getElem? (i := 20) rfl))
  have kf108 := htw (.fieldLink RX7 108 "VoiceDeskModel" "least" "[I") (pq_m5 _ (List.mem_of_getElem? (i := 6) rfl))
  have kf111 := htw (.fieldLink RX7 111 "VoiceDeskModel" "greatest" "[I") (pq_m5 _ (List.mem_of_getElem? (i := 7) rfl))
  have kf273 := htw (.fieldLink RX7 273 "VoiceDeskModel" "isFound" "Z") (pq_m31 _ (List.mem_of_getElem? (i := 18) rfl))
  have J48 : ∀ (fuel48 : Nat) (x1 : Int32) (c_isFound : Int32) (f_least : Nat → Int32) (f_greatest : Nat → Int32) (H : Heap) (locs : List Loc), pq_H D A s (wX7_finds cI th ad c_told c_sumZ c_sumE c_stepY c_odd c_even c_taped c_outs c_isFound f_least f_greatest) H locs → ∀ ls : Array Slot, lv_has ls 3 [(0, .ref th), (1, .int x1)] → fX7_finds_b48   fuel48 x1 c_isFound f_least f_greatest = some res → W p l e (pq_rm 2 45) s m args below meth c H locs 0 0 Q (F0 m 48 ls []) := by
    intro fuel48
    induction fuel48 with
    | zero => intro x1 c_isFound f_least f_greatest H locs hh ls hl hf; rw [fX7_finds_b48] at hf; cases hf
    | succ fuel48 ih48 =>
      have J114 : ∀ (x1 : Int32) (x2 : Int32) (c_isFound : Int32) (f_least : Nat → Int32) (f_greatest : Nat → Int32) (H : Heap) (locs : List Loc), pq_H D A s (wX7_finds cI th ad c_told c_sumZ c_sumE c_stepY c_odd c_even c_taped c_outs c_isFound f_least f_greatest) H locs → ∀ ls : Array Slot, lv_has ls 3 [(0, .ref th), (1, .int x1), (2, .int x2)] → fX7_finds_b114 (fX7_finds_b48   fuel48)  x1 x2 c_isFound f_least f_greatest = some res → W p l e (pq_rm 2 45) s m args below meth c H locs 0 0 Q (F0 m 114 ls []) := by
        intro x1 x2 c_isFound f_least f_greatest H locs hh ls hl hf
        rw [fX7_finds_b114] at hf
        refine lv_aload_n hx hb dX7_finds_114 rfl (lv_at hl 0 rfl) ?_
        refine pq_get C hh i7 0 6 rfl rfl 42 (by decide) kf111 rfl rfl dX7_finds_115 ?_
        refine lv_iload_n hx hb dX7_finds_118 rfl (lv_at hl 2 rfl) ?_
        refine lv_iload_n hx hb dX7_finds_119 rfl (lv_at hl 1 rfl) ?_
        obtain ⟨h35, hf⟩ := pq_wrx hf
        refine pq_iast C hh 2 rfl h35 dX7_finds_120 (fun H locs f36 e37 (hh : pq_H D A s (wX7_finds cI th ad c_told c_sumZ c_sumE c_stepY c_odd c_even c_taped c_outs c_isFound f_least f36) H locs) => ?_)
        have hf := hf f36 e37
        obtain ⟨v38, e39⟩ : ∃ y : Int32, y = x1 + (1 : Int32) := ⟨_, rfl⟩
        refine lv_iinc (v := v38) (lv' := [(1, .int v38), (0, .ref th), (2, .int x2)]) hx hb dX7_finds_121 hl (k := 1) rfl (by rw [e39]; rfl) (by decide) rfl (fun ls hl => ?_)
        have hf := pq_nmx hf v38 e39
        refine lv_goto (tgt := 48) hx hb dX7_finds_124 (by decide) ?_
        exact ih48 v38 c_isFound f_least f36 _ _ hh ls (lv_sub hl [1, 0] rfl) hf
      have J79 : ∀ (x1 : Int32) (x2 : Int32) (c_isFound : Int32) (f_least : Nat → Int32) (f_greatest : Nat → Int32) (H : Heap) (locs : List Loc), pq_H D A s (wX7_finds cI th ad c_told c_sumZ c_sumE c_stepY c_odd c_even c_taped c_outs c_isFound f_least f_greatest) H locs → ∀ ls : Array Slot, lv_has ls 3 [(0, .ref th), (1, .int x1), (2, .int x2)] → fX7_finds_b79 (fX7_finds_b48   fuel48)  x1 x2 c_isFound f_least f_greatest = some res → W p l e (pq_rm 2 45) s m args below meth c H locs 0 0 Q (F0 m 79 ls []) := by
        intro x1 x2 c_isFound f_least f_greatest H locs hh ls hl hf
        rw [fX7_finds_b79] at hf
        refine lv_aload_n hx hb dX7_finds_79 rfl (lv_at hl 0 rfl) ?_
        refine pq_get C hh i7 0 6 rfl rfl 42 (by decide) kf111 rfl rfl dX7_finds_80 ?_
        refine lv_iload_n hx hb dX7_finds_83 rfl (lv_at hl 2 rfl) ?_
        refine lv_iload_n hx hb dX7_finds_84 rfl (lv_at hl 1 rfl) ?_
        obtain ⟨h21, hf⟩ := pq_wrx hf
        refine pq_iast C hh 2 rfl h21 dX7_finds_85 (fun H locs f22 e23 (hh : pq_H D A s (wX7_finds cI th ad c_told c_sumZ c_sumE c_stepY c_odd c_even c_taped c_outs c_isFound f_least f22) H locs) => ?_)
        have hf := hf f22 e23
        refine lv_sipush (v := (256 : Int32)) hx hb dX7_finds_86 (by decide) ?_
        refine lv_aload_n hx hb dX7_finds_89 rfl (lv_at hl 0 rfl) ?_
        refine lv_iload_n hx hb dX7_finds_90 rfl (lv_at hl 1 rfl) ?_
        obtain ⟨r24, hu25, hf⟩ := pq_clx hf
        refine pq_cvI (n := 1) (As := [.int x1]) C hh (qX7_aSays l D cI cL th x1 r24 hu25) (gvX7_aSays hs (pq_m16 _ (List.mem_of_getElem? (i := 20) rfl))) rfl (by decide +kernel) ⟨Nat.le_of_ble_eq_true rfl, Nat.le_of_ble_eq_true rfl⟩ 0 6 rfl rfl rfl hl.1 rfl rfl (Nat.le_of_ble_eq_true rfl) dX7_finds_91 ⟨Nat.zero_le _, Nat.zero_le _⟩ [] [0, 1, 2] [0, 1, 2] rfl rfl (by decide) (by decide) (by decide) rfl (fun H locs (hh : pq_H D A s (wX7_finds cI th ad c_told c_sumZ c_sumE c_stepY c_odd c_even c_taped c_outs c_isFound f_least f22) H locs) => ?_)
        refine lv_iadd hx hb dX7_finds_94 ?_
        refine lv_topi (fun v26 e27 => ?_)
        have hf := pq_nmx hf v26 e27
        refine lv_istore_n (lv' := [(2, .int v26), (0, .ref th), (1, .int x1)]) hx hb dX7_finds_95 rfl hl (by decide) rfl (fun ls hl => ?_)
        refine lv_aload_n hx hb dX7_finds_96 rfl (lv_at hl 1 rfl) ?_
        refine pq_get C hh i7 0 6 rfl rfl 41 (by decide) kf108 rfl rfl dX7_finds_97 ?_
        refine lv_iload_n hx hb dX7_finds_100 rfl (lv_at hl 0 rfl) ?_
        obtain ⟨h28, hf⟩ := pq_rdx hf
        refine pq_iald C hh 1 rfl h28 dX7_finds_101 (fun v29 e30 => ?_)
        have hf := hf v29 e30
        refine lv_ldc (v := (-100000 : Int32)) hx hb hown kc9 dX7_finds_102 ?_
        refine lv_icmp_ne (tgt := 114) hx hb dX7_finds_104 (by decide) (fun h31 => ?_) (fun h31 => ?_)
        · have hf := pq_brf hf h31
          exact J114 x1 v26 c_isFound f_least f22 _ _ hh ls (lv_sub hl [1, 2, 0] rfl) hf
        · have hf := pq_brt hf h31
          refine lv_aload_n hx hb dX7_finds_107 rfl (lv_at hl 1 rfl) ?_
          refine pq_get C hh i7 0 6 rfl rfl 41 (by decide) kf108 rfl rfl dX7_finds_108 ?_
          refine lv_iload_n hx hb dX7_finds_111 rfl (lv_at hl 0 rfl) ?_
          refine lv_iload_n hx hb dX7_finds_112 rfl (lv_at hl 2 rfl) ?_
          obtain ⟨h32, hf⟩ := pq_wrx hf
          refine pq_iast C hh 1 rfl h32 dX7_finds_113 (fun H locs f33 e34 (hh : pq_H D A s (wX7_finds cI th ad c_told c_sumZ c_sumE c_stepY c_odd c_even c_taped c_outs c_isFound f33 f22) H locs) => ?_)
          have hf := hf f33 e34
          exact J114 x1 v26 c_isFound f33 f22 _ _ hh ls (lv_sub hl [1, 2, 0] rfl) hf
      intro x1 c_isFound f_least f_greatest H locs hh ls hl hf
      rw [fX7_finds_b48] at hf
      refine lv_iload_n hx hb dX7_finds_48 rfl (lv_at hl 1 rfl) ?_
      refine lv_sipush (v := (32767 : Int32)) hx hb dX7_finds_49 (by decide) ?_
      refine lv_icmp_gt (tgt := 127) hx hb dX7_finds_52 (by decide) (fun h11 => ?_) (fun h11 => ?_)
      · have hf := pq_brt hf h11
        obtain rfl := Option.some.inj hf
        exact hret _ _ _ ls hh dX7_finds_127
      · have hf := pq_brf hf h11
        refine lv_aload_n hx hb dX7_finds_55 rfl (lv_at hl 0 rfl) ?_
        refine lv_iload_n hx hb dX7_finds_56 rfl (lv_at hl 1 rfl) ?_
        obtain ⟨r12, hu13, hf⟩ := pq_clx hf
        refine pq_cvI (n := 1) (As := [.int x1]) C hh (qX7_muSays l D cI cL th ad c_told c_sumZ c_sumE c_stepY c_odd c_even c_taped c_outs c_isFound x1 r12 hu13) (gvX7_muSays hs (pq_m16 _ (List.mem_of_getElem? (i := 8) rfl))) rfl (by decide +kernel) ⟨Nat.le_of_ble_eq_true rfl, Nat.le_of_ble_eq_true rfl⟩ 0 6 rfl rfl rfl hl.1 rfl rfl (Nat.le_of_ble_eq_true rfl) dX7_finds_57 ⟨Nat.zero_le _, Nat.zero_le _⟩ [0] [1, 2] [2, 0, 1] rfl rfl (by decide) (by decide) (by decide) rfl (fun H locs (hh : pq_H D A s (wX7_finds cI th ad c_told c_sumZ c_sumE c_stepY c_odd c_even c_taped c_outs c_isFound f_least f_greatest) H locs) => ?_)
        refine lv_istore_n (lv' := [(2, .int r12), (0, .ref th), (1, .int x1)]) hx hb dX7_finds_60 rfl hl (by decide) rfl (fun ls hl => ?_)
        refine lv_aload_n hx hb dX7_finds_61 rfl (lv_at hl 1 rfl) ?_
        refine pq_get C hh i7 0 6 rfl rfl 41 (by decide) kf108 rfl rfl dX7_finds_62 ?_
        refine lv_iload_n hx hb dX7_finds_65 rfl (lv_at hl 0 rfl) ?_
        obtain ⟨h14, hf⟩ := pq_rdx hf
        refine pq_iald C hh 1 rfl h14 dX7_finds_66 (fun v15 e16 => ?_)
        have hf := hf v15 e16
        refine lv_ldc (v := (-100000 : Int32)) hx hb hown kc9 dX7_finds_67 ?_
        refine lv_icmp_ne (tgt := 79) hx hb dX7_finds_69 (by decide) (fun h17 => ?_) (fun h17 => ?_)
        · have hf := pq_brf hf h17
          exact J79 x1 r12 c_isFound f_least f_greatest _ _ hh ls (lv_sub hl [1, 2, 0] rfl) hf
        · have hf := pq_brt hf h17
          refine lv_aload_n hx hb dX7_finds_72 rfl (lv_at hl 1 rfl) ?_
          refine pq_get C hh i7 0 6 rfl rfl 41 (by decide) kf108 rfl rfl dX7_finds_73 ?_
          refine lv_iload_n hx hb dX7_finds_76 rfl (lv_at hl 0 rfl) ?_
          refine lv_iload_n hx hb dX7_finds_77 rfl (lv_at hl 2 rfl) ?_
          obtain ⟨h18, hf⟩ := pq_wrx hf
          refine pq_iast C hh 1 rfl h18 dX7_finds_78 (fun H locs f19 e20 (hh : pq_H D A s (wX7_finds cI th ad c_told c_sumZ c_sumE c_stepY c_odd c_even c_taped c_outs c_isFound f19 f_greatest) H locs) => ?_)
          have hf := hf f19 e20
          exact J79 x1 r12 c_isFound f19 f_greatest _ _ hh ls (lv_sub hl [1, 2, 0] rfl) hf
  have J15 : ∀ (fuel15 : Nat) (x1 : Int32) (c_isFound : Int32) (f_least : Nat → Int32) (f_greatest : Nat → Int32) (H : Heap) (locs : List Loc), pq_H D A s (wX7_finds cI th ad c_told c_sumZ c_sumE c_stepY c_odd c_even c_taped c_outs c_isFound f_least f_greatest) H locs → ∀ ls : Array Slot, lv_has ls 3 [(0, .ref th), (1, .int x1)] → fX7_finds_b15   fuel15 x1 c_isFound f_least f_greatest = some res → W p l e (pq_rm 2 45) s m args below meth c H locs 0 0 Q (F0 m 15 ls []) := by
    intro fuel15
    induction fuel15 with
    | zero => intro x1 c_isFound f_least f_greatest H locs hh ls hl hf; rw [fX7_finds_b15] at hf; cases hf
    | succ fuel15 ih15 =>
      intro x1 c_isFound f_least f_greatest H locs hh ls hl hf
      rw [fX7_finds_b15] at hf
      refine lv_iload_n hx hb dX7_finds_15 rfl (lv_at hl 1 rfl) ?_
      refine lv_sipush (v := (512 : Int32)) hx hb dX7_finds_16 (by decide) ?_
      refine lv_icmp_ge (tgt := 44) hx hb dX7_finds_19 (by decide) (fun h2 => ?_) (fun h2 => ?_)
      · have hf := pq_brt hf h2
        refine lv_sipush (v := (-32768 : Int32)) hx hb dX7_finds_44 (by decide) ?_
        refine lv_istore_n (lv' := [(1, .int (-32768 : Int32)), (0, .ref th)]) hx hb dX7_finds_47 rfl hl (by decide) rfl (fun ls hl => ?_)
        exact J48 66000 (-32768 : Int32) c_isFound f_least f_greatest _ _ hh ls (lv_sub hl [1, 0] rfl) hf
      · have hf := pq_brf hf h2
        refine lv_aload_n hx hb dX7_finds_22 rfl (lv_at hl 0 rfl) ?_
        refine pq_get C hh i7 0 6 rfl rfl 41 (by decide) kf108 rfl rfl dX7_finds_23 ?_
        refine lv_iload_n hx hb dX7_finds_26 rfl (lv_at hl 1 rfl) ?_
        refine lv_ldc (v := (-100000 : Int32)) hx hb hown kc9 dX7_finds_27 ?_
        obtain ⟨h3, hf⟩ := pq_wrx hf
        refine pq_iast C hh 1 rfl h3 dX7_finds_29 (fun H locs f4 e5 (hh : pq_H D A s (wX7_finds cI th ad c_told c_sumZ c_sumE c_stepY c_odd c_even c_taped c_outs c_isFound f4 f_greatest) H locs) => ?_)
        have hf := hf f4 e5
        refine lv_aload_n hx hb dX7_finds_30 rfl (lv_at hl 0 rfl) ?_
        refine pq_get C hh i7 0 6 rfl rfl 42 (by decide) kf111 rfl rfl dX7_finds_31 ?_
        refine lv_iload_n hx hb dX7_finds_34 rfl (lv_at hl 1 rfl) ?_
        refine lv_ldc (v := (-100000 : Int32)) hx hb hown kc9 dX7_finds_35 ?_
        obtain ⟨h6, hf⟩ := pq_wrx hf
        refine pq_iast C hh 2 rfl h6 dX7_finds_37 (fun H locs f7 e8 (hh : pq_H D A s (wX7_finds cI th ad c_told c_sumZ c_sumE c_stepY c_odd c_even c_taped c_outs c_isFound f4 f7) H locs) => ?_)
        have hf := hf f7 e8
        obtain ⟨v9, e10⟩ : ∃ y : Int32, y = x1 + (1 : Int32) := ⟨_, rfl⟩
        refine lv_iinc (v := v9) (lv' := [(1, .int v9), (0, .ref th)]) hx hb dX7_finds_38 hl (k := 1) rfl (by rw [e10]; rfl) (by decide) rfl (fun ls hl => ?_)
        have hf := pq_nmx hf v9 e10
        refine lv_goto (tgt := 15) hx hb dX7_finds_41 (by decide) ?_
        exact ih15 v9 c_isFound f4 f7 _ _ hh ls (lv_sub hl [1, 0] rfl) hf
  rw [fX7_finds] at hf
  refine lv_aload_n hx hb dX7_finds_0 rfl (lv_at hl 0 rfl) ?_
  refine pq_get C hh i7 0 6 rfl rfl 40 (by decide) kf273 rfl rfl dX7_finds_1 ?_
  refine lv_if_eq (tgt := 8) hx hb dX7_finds_4 (by decide) (fun h1 => ?_) (fun h1 => ?_)
  · have hf := pq_brt hf h1
    refine lv_aload_n hx hb dX7_finds_8 rfl (lv_at hl 0 rfl) ?_
    refine lv_iconst (v := (1 : Int32)) hx hb dX7_finds_9 (by decide) ?_
    refine pq_put (ty := .boolean) (v := .int (1 : Int32)) C hh i7 tyX7 tyX7_ok nmX7 0 6 rfl rfl 40 (by decide) kf273 rfl rfl (by decide +kernel) rfl rfl (Nat.le_of_ble_eq_true rfl) dX7_finds_10 (fun H locs (hh : pq_H D A s (wX7_finds cI th ad c_told c_sumZ c_sumE c_stepY c_odd c_even c_taped c_outs (1 : Int32) f_least f_greatest) H locs) => ?_)
    refine lv_iconst (v := (0 : Int32)) hx hb dX7_finds_13 (by decide) ?_
    refine lv_istore_n (lv' := [(1, .int (0 : Int32)), (0, .ref th)]) hx hb dX7_finds_14 rfl hl (by decide) rfl (fun ls hl => ?_)
    exact J15 1100 (0 : Int32) (1 : Int32) f_least f_greatest _ _ hh ls (lv_sub hl [1, 0] rfl) hf
  · have hf := pq_brf hf h1
    obtain rfl := Option.some.inj hf
    exact hret _ _ _ ls hh dX7_finds_7
set_option maxHeartbeats 4000000 in
set_option maxRecDepth 100000 in
theorem qX7_law (l : Launch) (D : va_G) (cI cL : ClassId) (th : Nat) (ad : Nat → Nat) (c_told : Int32) (c_sumZ : Int32) (c_sumE : Int32) (c_stepY : Int32) (c_odd : Int32) (c_even : Int32) (c_taped : Int32) (c_outs : Int32) (c_isFound : Int32) (f_least : Nat → Int32) (f_greatest : Nat → Int32) (a1 : Int32) (a2 : Int32) (a3 : Int32) (res : Int32 × Int32 × Int32 × (Nat → Int32) × (Nat → Int32)) (hf : fX7_law a1 a2 a3 c_told c_isFound f_least f_greatest = some res) : pq_CI l yX7_law qsX7_law 3 67 D cI cL [.ref th, .int a1, .int a2, .int a3] (wX7_law cI th ad c_told c_sumZ c_sumE c_stepY c_odd c_even c_taped c_outs c_isFound f_least f_greatest) (wX7_law cI th ad res.2.1 c_sumZ c_sumE c_stepY c_odd c_even c_taped c_outs res.2.2.1 res.2.2.2.1 res.2.2.2.2) res.1 := by
  refine pq_mkI (cc := cX7_law) (maxL := 4) (RT := .int) (by decide) rfl (Nat.le_of_ble_eq_true rfl) ?_
  intro p e s m args below meth c Q A C hh hret ls hl
  have hx := C.1
  have hb := C.2.1
  have hml := C.2.2.1
  have hown : s.vm.findClass RX7 = some m.cls := C.2.2.2.1
  have hs : ∀ w ∈ wsL_law, w ∈ qsX7_law := fun _ h => List.mem_cons_of_mem _ h
  have htw : ∀ w ∈ wsL_law, w.before args s = true := fun w h => C.2.2.2.2.1 w (hs w h)
  have hl : lv_has ls 4 [(0, .ref th), (1, .int a1), (2, .int a2), (3, .int a3)] := hl
  have i7 : ∀ w ∈ wsX70, w ∈ qsX7_law := fun w h => hs w (pq_i7 w h)
  have kc9 := htw (.constant RX7 9 (-100000)) (pq_m3 _ (List.mem_of_getElem? (i := 20) rfl))
  have kf108 := htw (.fieldLink RX7 108 "VoiceDeskModel" "least" "[I") (pq_m5 _ (List.mem_of_getElem? (i := 6) rfl))
  have kf111 := htw (.fieldLink RX7 111 "VoiceDeskModel" "greatest" "[I") (pq_m5 _ (List.mem_of_getElem? (i := 7) rfl))
  have kf114 := htw (.fieldLink RX7 114 "VoiceDeskModel" "told" "I") (pq_m6 _ (List.mem_of_getElem? (i := 17) rfl))
  rw [fX7_law] at hf
  refine lv_aload_n hx hb dX7_law_0 rfl (lv_at hl 0 rfl) ?_
  refine lv_iconst (v := (0 : Int32)) hx hb dX7_law_1 (by decide) ?_
  refine pq_put (ty := .int) (v := .int (0 : Int32)) C hh i7 tyX7 tyX7_ok nmX7 0 6 rfl rfl 0 (by decide) kf114 rfl rfl (by decide +kernel) rfl rfl (Nat.le_of_ble_eq_true rfl) dX7_law_2 (fun H locs (hh : pq_H D A s (wX7_law cI th ad (0 : Int32) c_sumZ c_sumE c_stepY c_odd c_even c_taped c_outs c_isFound f_least f_greatest) H locs) => ?_)
  refine lv_iload_n hx hb dX7_law_5 rfl (lv_at hl 1 rfl) ?_
  refine lv_if_lt (tgt := 34) hx hb dX7_law_6 (by decide) (fun h1 => ?_) (fun h1 => ?_)
  · have hf := pq_brt hf h1
    refine lv_ldc (v := (-100000 : Int32)) hx hb hown kc9 dX7_law_34 ?_
    obtain rfl := Option.some.inj hf
    exact hret _ _ _ ls hh dX7_law_36 rfl
  · have hf := pq_brf hf h1
    refine lv_iload_n hx hb dX7_law_9 rfl (lv_at hl 1 rfl) ?_
    refine lv_iconst (v := (1 : Int32)) hx hb dX7_law_10 (by decide) ?_
    refine lv_icmp_gt (tgt := 34) hx hb dX7_law_11 (by decide) (fun h2 => ?_) (fun h2 => ?_)
    · have hf := pq_brt hf h2
      refine lv_ldc (v := (-100000 : Int32)) hx hb hown kc9 dX7_law_34 ?_
      obtain rfl := Option.some.inj hf
      exact hret _ _ _ ls hh dX7_law_36 rfl
    · have hf := pq_brf hf h2
      refine lv_iload_n hx hb dX7_law_14 rfl (lv_at hl 2 rfl) ?_
      refine lv_if_lt (tgt := 34) hx hb dX7_law_15 (by decide) (fun h3 => ?_) (fun h3 => ?_)
      · have hf := pq_brt hf h3
        refine lv_ldc (v := (-100000 : Int32)) hx hb hown kc9 dX7_law_34 ?_
        obtain rfl := Option.some.inj hf
        exact hret _ _ _ ls hh dX7_law_36 rfl
      · have hf := pq_brf hf h3
        refine lv_iload_n hx hb dX7_law_18 rfl (lv_at hl 2 rfl) ?_
        refine lv_sipush (v := (255 : Int32)) hx hb dX7_law_19 (by decide) ?_
        refine lv_icmp_gt (tgt := 34) hx hb dX7_law_22 (by decide) (fun h4 => ?_) (fun h4 => ?_)
        · have hf := pq_brt hf h4
          refine lv_ldc (v := (-100000 : Int32)) hx hb hown kc9 dX7_law_34 ?_
          obtain rfl := Option.some.inj hf
          exact hret _ _ _ ls hh dX7_law_36 rfl
        · have hf := pq_brf hf h4
          refine lv_iload_n hx hb dX7_law_25 rfl (lv_at hl 3 rfl) ?_
          refine lv_if_lt (tgt := 34) hx hb dX7_law_26 (by decide) (fun h5 => ?_) (fun h5 => ?_)
          · have hf := pq_brt hf h5
            refine lv_ldc (v := (-100000 : Int32)) hx hb hown kc9 dX7_law_34 ?_
            obtain rfl := Option.some.inj hf
            exact hret _ _ _ ls hh dX7_law_36 rfl
          · have hf := pq_brf hf h5
            refine lv_iload_n hx hb dX7_law_29 rfl (lv_at hl 3 rfl) ?_
            refine lv_iconst (v := (2 : Int32)) hx hb dX7_law_30 (by decide) ?_
            refine lv_icmp_le (tgt := 37) hx hb dX7_law_31 (by decide) (fun h6 => ?_) (fun h6 => ?_)
            · have hf := pq_brt hf h6
              refine lv_iload_n hx hb dX7_law_37 rfl (lv_at hl 3 rfl) ?_
              refine lv_iconst (v := (2 : Int32)) hx hb dX7_law_38 (by decide) ?_
              refine lv_icmp_ne (tgt := 68) hx hb dX7_law_39 (by decide) (fun h7 => ?_) (fun h7 => ?_)
              · have hf := pq_brf hf h7
                refine lv_aload_n hx hb dX7_law_68 rfl (lv_at hl 0 rfl) ?_
                obtain ⟨⟨c8, f9, f10⟩, hu11, hf⟩ := pq_clx hf
                have hf := pq_nmx hf c8 rfl
                have hf := pq_nmx hf f9 rfl
                have hf := pq_nmx hf f10 rfl
                refine pq_cvV (n := 0) (As := []) C hh (qX7_finds l D cI cL th ad (0 : Int32) c_sumZ c_sumE c_stepY c_odd c_even c_taped c_outs c_isFound f_least f_greatest (c8, f9, f10) hu11) (gvX7_finds hs (pq_m31 _ (List.mem_of_getElem? (i := 14) rfl))) rfl (by decide +kernel) ⟨Nat.le_of_ble_eq_true rfl, Nat.le_of_ble_eq_true rfl⟩ 0 6 rfl rfl rfl hl.1 rfl rfl (Nat.le_of_ble_eq_true rfl) dX7_law_69 ⟨Nat.zero_le _, Nat.zero_le _⟩ [0, 1, 2] [] [0, 1, 2] rfl rfl (by decide) (by decide) (by decide) rfl (fun H locs (hh : pq_H D A s (wX7_law cI th ad (0 : Int32) c_sumZ c_sumE c_stepY c_odd c_even c_taped c_outs c8 f9 f10) H locs) => ?_)
                refine lv_iload_n hx hb dX7_law_72 rfl (lv_at hl 3 rfl) ?_
                refine lv_if_ne (tgt := 91) hx hb dX7_law_73 (by decide) (fun h13 => ?_) (fun h13 => ?_)
                · have hf := pq_brf hf h13
                  refine lv_aload_n hx hb dX7_law_91 rfl (lv_at hl 0 rfl) ?_
                  refine pq_get C hh i7 0 6 rfl rfl 42 (by decide) kf111 rfl rfl dX7_law_92 ?_
                  refine lv_sipush (v := (256 : Int32)) hx hb dX7_law_95 (by decide) ?_
                  refine lv_iload_n hx hb dX7_law_98 rfl (lv_at hl 1 rfl) ?_
                  refine lv_imul hx hb dX7_law_99 ?_
                  refine lv_iload_n hx hb dX7_law_100 rfl (lv_at hl 2 rfl) ?_
                  refine lv_iadd hx hb dX7_law_101 ?_
                  obtain ⟨h14, hf⟩ := pq_rdx hf
                  refine pq_iald C hh 2 rfl h14 dX7_law_102 (fun v15 e16 => ?_)
                  have hf := hf v15 e16
                  obtain rfl := Option.some.inj hf
                  exact hret _ _ _ ls hh dX7_law_103 rfl
                · have hf := pq_brt hf h13
                  refine lv_aload_n hx hb dX7_law_76 rfl (lv_at hl 0 rfl) ?_
                  refine pq_get C hh i7 0 6 rfl rfl 41 (by decide) kf108 rfl rfl dX7_law_77 ?_
                  refine lv_sipush (v := (256 : Int32)) hx hb dX7_law_80 (by decide) ?_
                  refine lv_iload_n hx hb dX7_law_83 rfl (lv_at hl 1 rfl) ?_
                  refine lv_imul hx hb dX7_law_84 ?_
                  refine lv_iload_n hx hb dX7_law_85 rfl (lv_at hl 2 rfl) ?_
                  refine lv_iadd hx hb dX7_law_86 ?_
                  obtain ⟨h17, hf⟩ := pq_rdx hf
                  refine pq_iald C hh 1 rfl h17 dX7_law_87 (fun v18 e19 => ?_)
                  have hf := hf v18 e19
                  refine lv_goto (tgt := 103) hx hb dX7_law_88 (by decide) ?_
                  obtain rfl := Option.some.inj hf
                  exact hret _ _ _ ls hh dX7_law_103 rfl
              · have hf := pq_brt hf h7
                refine lv_iload_n hx hb dX7_law_42 rfl (lv_at hl 1 rfl) ?_
                refine lv_if_ne (tgt := 58) hx hb dX7_law_43 (by decide) (fun h20 => ?_) (fun h20 => ?_)
                · have hf := pq_brf hf h20
                  refine lv_aload_n hx hb dX7_law_58 rfl (lv_at hl 0 rfl) ?_
                  refine lv_aload_n hx hb dX7_law_59 rfl (lv_at hl 0 rfl) ?_
                  refine lv_iload_n hx hb dX7_law_60 rfl (lv_at hl 2 rfl) ?_
                  obtain ⟨r21, hu22, hf⟩ := pq_clx hf
                  refine pq_cvI (n := 1) (As := [.int a2]) C hh (qX7_aHears l D cI cL th a2 r21 hu22) (gvX7_aHears hs (pq_m23 _ (List.mem_of_getElem? (i := 8) rfl))) rfl (by decide +kernel) ⟨Nat.le_of_ble_eq_true rfl, Nat.le_of_ble_eq_true rfl⟩ 0 6 rfl rfl rfl hl.1 rfl rfl (Nat.le_of_ble_eq_true rfl) dX7_law_61 ⟨Nat.zero_le _, Nat.zero_le _⟩ [] [0, 1, 2] [0, 1, 2] rfl rfl (by decide) (by decide) (by decide) rfl (fun H locs (hh : pq_H D A s (wX7_law cI th ad (0 : Int32) c_sumZ c_sumE c_stepY c_odd c_even c_taped c_outs c_isFound f_least f_greatest) H locs) => ?_)
                  obtain ⟨r23, hu24, hf⟩ := pq_clx hf
                  refine pq_cvI (n := 1) (As := [.int r21]) C hh (qX7_aSays l D cI cL th r21 r23 hu24) (gvX7_aSays hs (pq_m16 _ (List.mem_of_getElem? (i := 20) rfl))) rfl (by decide +kernel) ⟨Nat.le_of_ble_eq_true rfl, Nat.le_of_ble_eq_true rfl⟩ 0 6 rfl rfl rfl hl.1 rfl rfl (Nat.le_of_ble_eq_true rfl) dX7_law_64 ⟨Nat.zero_le _, Nat.zero_le _⟩ [] [0, 1, 2] [0, 1, 2] rfl rfl (by decide) (by decide) (by decide) rfl (fun H locs (hh : pq_H D A s (wX7_law cI th ad (0 : Int32) c_sumZ c_sumE c_stepY c_odd c_even c_taped c_outs c_isFound f_least f_greatest) H locs) => ?_)
                  obtain rfl := Option.some.inj hf
                  exact hret _ _ _ ls hh dX7_law_67 rfl
                · have hf := pq_brt hf h20
                  refine lv_aload_n hx hb dX7_law_46 rfl (lv_at hl 0 rfl) ?_
                  refine lv_aload_n hx hb dX7_law_47 rfl (lv_at hl 0 rfl) ?_
                  refine lv_iload_n hx hb dX7_law_48 rfl (lv_at hl 2 rfl) ?_
                  obtain ⟨r25, hu26, hf⟩ := pq_clx hf
                  refine pq_cvI (n := 1) (As := [.int a2]) C hh (qX7_muHears l D cI cL th a2 r25 hu26) (gvX7_muHears hs (pq_m23 _ (List.mem_of_getElem? (i := 4) rfl))) rfl (by decide +kernel) ⟨Nat.le_of_ble_eq_true rfl, Nat.le_of_ble_eq_true rfl⟩ 0 6 rfl rfl rfl hl.1 rfl rfl (Nat.le_of_ble_eq_true rfl) dX7_law_49 ⟨Nat.zero_le _, Nat.zero_le _⟩ [] [0, 1, 2] [0, 1, 2] rfl rfl (by decide) (by decide) (by decide) rfl (fun H locs (hh : pq_H D A s (wX7_law cI th ad (0 : Int32) c_sumZ c_sumE c_stepY c_odd c_even c_taped c_outs c_isFound f_least f_greatest) H locs) => ?_)
                  obtain ⟨r27, hu28, hf⟩ := pq_clx hf
                  refine pq_cvI (n := 1) (As := [.int r25]) C hh (qX7_muSays l D cI cL th ad (0 : Int32) c_sumZ c_sumE c_stepY c_odd c_even c_taped c_outs c_isFound r25 r27 hu28) (gvX7_muSays hs (pq_m16 _ (List.mem_of_getElem? (i := 8) rfl))) rfl (by decide +kernel) ⟨Nat.le_of_ble_eq_true rfl, Nat.le_of_ble_eq_true rfl⟩ 0 6 rfl rfl rfl hl.1 rfl rfl (Nat.le_of_ble_eq_true rfl) dX7_law_52 ⟨Nat.zero_le _, Nat.zero_le _⟩ [0] [1, 2] [2, 0, 1] rfl rfl (by decide) (by decide) (by decide) rfl (fun H locs (hh : pq_H D A s (wX7_law cI th ad (0 : Int32) c_sumZ c_sumE c_stepY c_odd c_even c_taped c_outs c_isFound f_least f_greatest) H locs) => ?_)
                  refine lv_goto (tgt := 67) hx hb dX7_law_55 (by decide) ?_
                  obtain rfl := Option.some.inj hf
                  exact hret _ _ _ ls hh dX7_law_67 rfl
            · have hf := pq_brf hf h6
              refine lv_ldc (v := (-100000 : Int32)) hx hb hown kc9 dX7_law_34 ?_
              obtain rfl := Option.some.inj hf
              exact hret _ _ _ ls hh dX7_law_36 rfl
