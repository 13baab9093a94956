set_option maxHeartbeats 4000000 in
set_option maxRecDepth 100000 in
theorem qX7_hear (l : Launch) (D : va_G) (cI cL : ClassId) (th : Nat) (ad : Nat → Nat) (c_told : Int32) (c_sumZ : Int32) (c_sumE : Int32) (c_stepY : Int32) (c_odd : Int32) (c_even : Int32) (c_taped : Int32) (c_outs : Int32) (c_isFound : Int32) (f_kinds : Nat → Int32) (f_seconds : Nat → Int32) (f_g : Nat → Int32) (f_table2 : Nat → Int32) (f_table3 : Nat → Int32) (f_table4 : Nat → Int32) (f_table5 : Nat → Int32) (f_weight2 : Nat → Int32) (f_weight3 : Nat → Int32) (f_weight4 : Nat → Int32) (f_weight5 : Nat → Int32) (f_pace2 : Nat → Int32) (f_pace3 : Nat → Int32) (f_pace4 : Nat → Int32) (f_pace5 : Nat → Int32) (f_bands : Nat → Int32) (f_sieve : Nat → Int32) (f_coefficients : Nat → Int32) (f_roots : Nat → Int32) (f_ups : Nat → Int32) (f_highs : Nat → Int32) (f_lowWeights : Nat → Int32) (f_highWeights : Nat → Int32) (f_heard56 : Nat → Int32) (f_heard64 : Nat → Int32) (a1 : Int32) (a2 : Int32) (res : Int32 × Int32 × Int32 × Int32 × Int32 × Int32 × Int32 × (Nat → Int32) × (Nat → Int32) × (Nat → Int32) × (Nat → Int32)) (hf : fX7_hear a1 a2 f_kinds f_table2 f_table3 f_table4 f_table5 f_weight2 f_weight3 f_weight4 f_weight5 f_pace2 f_pace3 f_pace4 f_pace5 f_coefficients f_roots f_ups f_highs f_lowWeights f_highWeights f_heard56 f_heard64 c_told c_sumZ c_sumE c_stepY c_odd c_even f_seconds f_g f_bands f_sieve = some res) : pq_CI l yX7_hear qsX7_hear 5 133 D cI cL [.ref th, .int a1, .int a2] (wX7_hear cI th ad c_told c_sumZ c_sumE c_stepY c_odd c_even c_taped c_outs c_isFound f_kinds f_seconds f_g f_table2 f_table3 f_table4 f_table5 f_weight2 f_weight3 f_weight4 f_weight5 f_pace2 f_pace3 f_pace4 f_pace5 f_bands f_sieve f_coefficients f_roots f_ups f_highs f_lowWeights f_highWeights f_heard56 f_heard64) (wX7_hear cI th ad res.2.1 res.2.2.1 res.2.2.2.1 res.2.2.2.2.1 res.2.2.2.2.2.1 res.2.2.2.2.2.2.1 c_taped c_outs c_isFound f_kinds res.2.2.2.2.2.2.2.1 res.2.2.2.2.2.2.2.2.1 f_table2 f_table3 f_table4 f_table5 f_weight2 f_weight3 f_weight4 f_weight5 f_pace2 f_pace3 f_pace4 f_pace5 res.2.2.2.2.2.2.2.2.2.1 res.2.2.2.2.2.2.2.2.2.2 f_coefficients f_roots f_ups f_highs f_lowWeights f_highWeights f_heard56 f_heard64) res.1 := by
  refine pq_mkI (cc := cX7_hear) (maxL := 3) (RT := .int) (by decide) rfl (Nat.le_of_ble_eq_true rfl) ?_
  intro p e s m args below meth c Q A C hh hret ls hl
  have hx := C.1
  have hb := C.2.1
  have hml := C.2.2.1
  have hown : s.vm.findClass RX7 = some m.cls := C.2.2.2.1
  have hs : ∀ w ∈ wsL_law, w ∈ qsX7_hear := fun _ h => List.mem_cons_of_mem _ h
  have htw : ∀ w ∈ wsL_law, w.before args s = true := fun w h => C.2.2.2.2.1 w (hs w h)
  have hl : lv_has ls 3 [(0, .ref th), (1, .int a1), (2, .int a2)] := hl
  have i7 : ∀ w ∈ wsX70, w ∈ qsX7_hear := fun w h => hs w (pq_i7 w h)
  have kc9 := htw (.constant RX7 9 (-100000)) (pq_m3 _ (List.mem_of_getElem? (i := 20) rfl))
  have kf114 := htw (.fieldLink RX7 114 "VoiceDeskModel" "told" "I") (pq_m6 _ (List.mem_of_getElem? (i := 17) rfl))
  rw [fX7_hear] at hf
  refine lv_aload_n hx hb dX7_hear_0 rfl (lv_at hl 0 rfl) ?_
  refine lv_iconst (v := (0 : Int32)) hx hb dX7_hear_1 (by decide) ?_
  refine pq_put (ty := .int) (v := .int (0 : Int32)) C hh i7 tyX7 tyX7_ok nmX7 0 6 rfl rfl 0 (by decide) kf114 rfl rfl (by decide +kernel) rfl rfl (Nat.le_of_ble_eq_true rfl) dX7_hear_2 (fun H locs (hh : pq_H D A s (wX7_hear cI th ad (0 : Int32) c_sumZ c_sumE c_stepY c_odd c_even c_taped c_outs c_isFound f_kinds f_seconds f_g f_table2 f_table3 f_table4 f_table5 f_weight2 f_weight3 f_weight4 f_weight5 f_pace2 f_pace3 f_pace4 f_pace5 f_bands f_sieve f_coefficients f_roots f_ups f_highs f_lowWeights f_highWeights f_heard56 f_heard64) H locs) => ?_)
  refine lv_aload_n hx hb dX7_hear_5 rfl (lv_at hl 0 rfl) ?_
  refine lv_iload_n hx hb dX7_hear_6 rfl (lv_at hl 1 rfl) ?_
  obtain ⟨r1, hu2, hf⟩ := pq_clx hf
  refine pq_cvI (n := 1) (As := [.int a1]) C hh (qX7_isOpen l D cI cL th ad (0 : Int32) c_sumZ c_sumE c_stepY c_odd c_even c_taped c_outs c_isFound f_kinds a1 r1 hu2) (gvX7_isOpen hs (pq_m15 _ (List.mem_of_getElem? (i := 16) rfl))) rfl (by decide +kernel) ⟨Nat.le_of_ble_eq_true rfl, Nat.le_of_ble_eq_true rfl⟩ 0 6 rfl rfl rfl hl.1 rfl rfl (Nat.le_of_ble_eq_true rfl) dX7_hear_7 ⟨Nat.zero_le _, Nat.zero_le _⟩ [0, 1] [2, 3, 4, 5, 6, 7, 8, 9, 10, 11, 12, 13, 14, 15, 16, 17, 18, 19, 20, 21, 22, 23, 24, 25] [24, 25, 0, 1, 2, 3, 4, 5, 6, 7, 8, 9, 10, 11, 12, 13, 14, 15, 16, 17, 18, 19, 20, 21, 22, 23] rfl rfl (by decide) (by decide) (by decide) rfl (fun H locs (hh : pq_H D A s (wX7_hear cI th ad (0 : Int32) c_sumZ c_sumE c_stepY c_odd c_even c_taped c_outs c_isFound f_kinds f_seconds f_g f_table2 f_table3 f_table4 f_table5 f_weight2 f_weight3 f_weight4 f_weight5 f_pace2 f_pace3 f_pace4 f_pace5 f_bands f_sieve f_coefficients f_roots f_ups f_highs f_lowWeights f_highWeights f_heard56 f_heard64) H locs) => ?_)
  refine lv_if_eq (tgt := 22) hx hb dX7_hear_10 (by decide) (fun h3 => ?_) (fun h3 => ?_)
  · have hf := pq_brt hf h3
    refine lv_ldc (v := (-100000 : Int32)) hx hb hown kc9 dX7_hear_22 ?_
    obtain rfl := Option.some.inj hf
    exact hret _ _ _ ls hh dX7_hear_24 rfl
  · have hf := pq_brf hf h3
    refine lv_aload_n hx hb dX7_hear_13 rfl (lv_at hl 0 rfl) ?_
    refine lv_iload_n hx hb dX7_hear_14 rfl (lv_at hl 1 rfl) ?_
    refine lv_iload_n hx hb dX7_hear_15 rfl (lv_at hl 2 rfl) ?_
    obtain ⟨r4, hu5, hf⟩ := pq_clx hf
    refine pq_cvI (n := 2) (As := [.int a1, .int a2]) C hh (qX7_isCode l D cI cL th ad (0 : Int32) c_sumZ c_sumE c_stepY c_odd c_even c_taped c_outs c_isFound f_kinds a1 a2 r4 hu5) (gvX7_isCode hs (pq_m22 _ (List.mem_of_getElem? (i := 16) rfl))) rfl (by decide +kernel) ⟨Nat.le_of_ble_eq_true rfl, Nat.le_of_ble_eq_true rfl⟩ 0 6 rfl rfl rfl hl.1 rfl rfl (Nat.le_of_ble_eq_true rfl) dX7_hear_16 ⟨Nat.zero_le _, Nat.zero_le _⟩ [0, 1] [2, 3, 4, 5, 6, 7, 8, 9, 10, 11, 12, 13, 14, 15, 16, 17, 18, 19, 20, 21, 22, 23, 24, 25] [24, 25, 0, 1, 2, 3, 4, 5, 6, 7, 8, 9, 10, 11, 12, 13, 14, 15, 16, 17, 18, 19, 20, 21, 22, 23] rfl rfl (by decide) (by decide) (by decide) rfl (fun H locs (hh : pq_H D A s (wX7_hear cI th ad (0 : Int32) c_sumZ c_sumE c_stepY c_odd c_even c_taped c_outs c_isFound f_kinds f_seconds f_g f_table2 f_table3 f_table4 f_table5 f_weight2 f_weight3 f_weight4 f_weight5 f_pace2 f_pace3 f_pace4 f_pace5 f_bands f_sieve f_coefficients f_roots f_ups f_highs f_lowWeights f_highWeights f_heard56 f_heard64) H locs) => ?_)
    refine lv_if_ne (tgt := 25) hx hb dX7_hear_19 (by decide) (fun h6 => ?_) (fun h6 => ?_)
    · have hf := pq_brf hf h6
      refine lv_aload_n hx hb dX7_hear_25 rfl (lv_at hl 0 rfl) ?_
      refine lv_iload_n hx hb dX7_hear_26 rfl (lv_at hl 1 rfl) ?_
      refine lv_iload_n hx hb dX7_hear_27 rfl (lv_at hl 2 rfl) ?_
      obtain ⟨⟨r7, c8, c9, c10, c11, c12, f13, f14, f15, f16⟩, hu17, hf⟩ := pq_clx hf
      have hf := pq_nmx hf r7 rfl
      have hf := pq_nmx hf c8 rfl
      have hf := pq_nmx hf c9 rfl
      have hf := pq_nmx hf c10 rfl
      have hf := pq_nmx hf c11 rfl
      have hf := pq_nmx hf c12 rfl
      have hf := pq_nmx hf f13 rfl
      have hf := pq_nmx hf f14 rfl
      have hf := pq_nmx hf f15 rfl
      have hf := pq_nmx hf f16 rfl
      refine pq_cvI (n := 2) (As := [.int a1, .int a2]) C hh (qX7_hears l D cI cL th ad (0 : Int32) c_sumZ c_sumE c_stepY c_odd c_even c_taped c_outs c_isFound f_kinds f_seconds f_g f_table2 f_table3 f_table4 f_table5 f_weight2 f_weight3 f_weight4 f_weight5 f_pace2 f_pace3 f_pace4 f_pace5 f_bands f_sieve f_coefficients f_roots f_ups f_highs f_lowWeights f_highWeights f_heard56 f_heard64 a1 a2 (r7, c8, c9, c10, c11, c12, f13, f14, f15, f16) hu17) (gvX7_hears hs (pq_m23 _ (List.mem_of_getElem? (i := 0) rfl))) rfl (by decide +kernel) ⟨Nat.le_of_ble_eq_true rfl, Nat.le_of_ble_eq_true rfl⟩ 0 6 rfl rfl rfl hl.1 rfl rfl (Nat.le_of_ble_eq_true rfl) dX7_hear_28 ⟨Nat.zero_le _, Nat.zero_le _⟩ [0, 1, 2, 3, 4, 5, 6, 7, 8, 9, 10, 11, 12, 13, 14, 15, 16, 17, 18, 19, 20, 21, 22, 23, 24, 25] [] [0, 1, 2, 3, 4, 5, 6, 7, 8, 9, 10, 11, 12, 13, 14, 15, 16, 17, 18, 19, 20, 21, 22, 23, 24, 25] rfl rfl (by decide) (by decide) (by decide) rfl (fun H locs (hh : pq_H D A s (wX7_hear cI th ad (0 : Int32) c8 c9 c10 c11 c12 c_taped c_outs c_isFound f_kinds f13 f14 f_table2 f_table3 f_table4 f_table5 f_weight2 f_weight3 f_weight4 f_weight5 f_pace2 f_pace3 f_pace4 f_pace5 f15 f16 f_coefficients f_roots f_ups f_highs f_lowWeights f_highWeights f_heard56 f_heard64) H locs) => ?_)
      obtain rfl := Option.some.inj hf
      exact hret _ _ _ ls hh dX7_hear_31 rfl
    · have hf := pq_brt hf h6
      refine lv_ldc (v := (-100000 : Int32)) hx hb hown kc9 dX7_hear_22 ?_
      obtain rfl := Option.some.inj hf
      exact hret _ _ _ ls hh dX7_hear_24 rfl
set_option maxHeartbeats 4000000 in
set_option maxRecDepth 100000 in
theorem qX7_second (l : Launch) (D : va_G) (cI cL : ClassId) (th : Nat) (ad : Nat → Nat) (c_told : Int32) (c_sumZ : Int32) (c_sumE : Int32) (c_stepY : Int32) (c_odd : Int32) (c_even : Int32) (c_taped : Int32) (c_outs : Int32) (c_isFound : Int32) (f_kinds : Nat → Int32) (f_seconds : Nat → Int32) (a1 : Int32) (res : Int32 × Int32) (hf : fX7_second a1 f_kinds f_seconds c_told = some res) : pq_CI l yX7_second qsX7_second 2 42 D cI cL [.ref th, .int a1] (wX7_second cI th ad c_told c_sumZ c_sumE c_stepY c_odd c_even c_taped c_outs c_isFound f_kinds f_seconds) (wX7_second cI th ad res.2 c_sumZ c_sumE c_stepY c_odd c_even c_taped c_outs c_isFound f_kinds f_seconds) res.1 := by
  refine pq_mkI (cc := cX7_second) (maxL := 2) (RT := .int) (by decide) rfl (Nat.le_of_ble_eq_true rfl) ?_
  intro p e s m args below meth c Q A C hh hret ls hl
  have hx := C.1
  have hb := C.2.1
  have hml := C.2.2.1
  have hown : s.vm.findClass RX7 = some m.cls := C.2.2.2.1
  have hs : ∀ w ∈ wsL_law, w ∈ qsX7_second := fun _ h => List.mem_cons_of_mem _ h
  have htw : ∀ w ∈ wsL_law, w.before args s = true := fun w h => C.2.2.2.2.1 w (hs w h)
  have hl : lv_has ls 2 [(0, .ref th), (1, .int a1)] := hl
  have i7 : ∀ w ∈ wsX70, w ∈ qsX7_second := fun w h => hs w (pq_i7 w h)
  have kc9 := htw (.constant RX7 9 (-100000)) (pq_m3 _ (List.mem_of_getElem? (i := 20) rfl))
  have kf114 := htw (.fieldLink RX7 114 "VoiceDeskModel" "told" "I") (pq_m6 _ (List.mem_of_getElem? (i := 17) rfl))
  have kf14 := htw (.fieldLink RX7 14 "VoiceDeskModel" "seconds" "[I") (pq_m3 _ (List.mem_of_getElem? (i := 22) rfl))
  rw [fX7_second] at hf
  refine lv_aload_n hx hb dX7_second_0 rfl (lv_at hl 0 rfl) ?_
  refine lv_iconst (v := (0 : Int32)) hx hb dX7_second_1 (by decide) ?_
  refine pq_put (ty := .int) (v := .int (0 : Int32)) C hh i7 tyX7 tyX7_ok nmX7 0 6 rfl rfl 0 (by decide) kf114 rfl rfl (by decide +kernel) rfl rfl (Nat.le_of_ble_eq_true rfl) dX7_second_2 (fun H locs (hh : pq_H D A s (wX7_second cI th ad (0 : Int32) c_sumZ c_sumE c_stepY c_odd c_even c_taped c_outs c_isFound f_kinds f_seconds) H locs) => ?_)
  refine lv_aload_n hx hb dX7_second_5 rfl (lv_at hl 0 rfl) ?_
  refine lv_iload_n hx hb dX7_second_6 rfl (lv_at hl 1 rfl) ?_
  obtain ⟨r1, hu2, hf⟩ := pq_clx hf
  refine pq_cvI (n := 1) (As := [.int a1]) C hh (qX7_isOpen l D cI cL th ad (0 : Int32) c_sumZ c_sumE c_stepY c_odd c_even c_taped c_outs c_isFound f_kinds a1 r1 hu2) (gvX7_isOpen hs (pq_m15 _ (List.mem_of_getElem? (i := 16) rfl))) rfl (by decide +kernel) ⟨Nat.le_of_ble_eq_true rfl, Nat.le_of_ble_eq_true rfl⟩ 0 6 rfl rfl rfl hl.1 rfl rfl (Nat.le_of_ble_eq_true rfl) dX7_second_7 ⟨Nat.zero_le _, Nat.zero_le _⟩ [0, 1] [2] [1, 2, 0] rfl rfl (by decide) (by decide) (by decide) rfl (fun H locs (hh : pq_H D A s (wX7_second cI th ad (0 : Int32) c_sumZ c_sumE c_stepY c_odd c_even c_taped c_outs c_isFound f_kinds f_seconds) H locs) => ?_)
  refine lv_if_eq (tgt := 30) hx hb dX7_second_10 (by decide) (fun h3 => ?_) (fun h3 => ?_)
  · have hf := pq_brt hf h3
    refine lv_ldc (v := (-100000 : Int32)) hx hb hown kc9 dX7_second_30 ?_
    obtain rfl := Option.some.inj hf
    exact hret _ _ _ ls hh dX7_second_32 rfl
  · have hf := pq_brf hf h3
    refine lv_aload_n hx hb dX7_second_13 rfl (lv_at hl 0 rfl) ?_
    refine lv_iload_n hx hb dX7_second_14 rfl (lv_at hl 1 rfl) ?_
    obtain ⟨r4, hu5, hf⟩ := pq_clx hf
    refine pq_cvI (n := 1) (As := [.int a1]) C hh (qX7_isPaired l D cI cL th ad (0 : Int32) c_sumZ c_sumE c_stepY c_odd c_even c_taped c_outs c_isFound f_kinds a1 r4 hu5) (gvX7_isPaired hs (pq_m15 _ (List.mem_of_getElem? (i := 20) rfl))) rfl (by decide +kernel) ⟨Nat.le_of_ble_eq_true rfl, Nat.le_of_ble_eq_true rfl⟩ 0 6 rfl rfl rfl hl.1 rfl rfl (Nat.le_of_ble_eq_true rfl) dX7_second_15 ⟨Nat.zero_le _, Nat.zero_le _⟩ [0, 1] [2] [1, 2, 0] rfl rfl (by decide) (by decide) (by decide) rfl (fun H locs (hh : pq_H D A s (wX7_second cI th ad (0 : Int32) c_sumZ c_sumE c_stepY c_odd c_even c_taped c_outs c_isFound f_kinds f_seconds) H locs) => ?_)
    refine lv_if_eq (tgt := 30) hx hb dX7_second_18 (by decide) (fun h6 => ?_) (fun h6 => ?_)
    · have hf := pq_brt hf h6
      refine lv_ldc (v := (-100000 : Int32)) hx hb hown kc9 dX7_second_30 ?_
      obtain rfl := Option.some.inj hf
      exact hret _ _ _ ls hh dX7_second_32 rfl
    · have hf := pq_brf hf h6
      refine lv_aload_n hx hb dX7_second_21 rfl (lv_at hl 0 rfl) ?_
      refine pq_get C hh i7 0 6 rfl rfl 2 (by decide) kf14 rfl rfl dX7_second_22 ?_
      refine lv_iload_n hx hb dX7_second_25 rfl (lv_at hl 1 rfl) ?_
      obtain ⟨h7, hf⟩ := pq_rdx hf
      refine pq_iald C hh 2 rfl h7 dX7_second_26 (fun v8 e9 => ?_)
      have hf := hf v8 e9
      refine lv_goto (tgt := 32) hx hb dX7_second_27 (by decide) ?_
      obtain rfl := Option.some.inj hf
      exact hret _ _ _ ls hh dX7_second_32 rfl
set_option maxHeartbeats 4000000 in
set_option maxRecDepth 100000 in
theorem qX7_inner (l : Launch) (D : va_G) (cI cL : ClassId) (th : Nat) (ad : Nat → Nat) (c_told : Int32) (c_sumZ : Int32) (c_sumE : Int32) (c_stepY : Int32) (c_odd : Int32) (c_even : Int32) (c_taped : Int32) (c_outs : Int32) (c_isFound : Int32) (f_kinds : Nat → Int32) (f_g : Nat → Int32) (f_bands : Nat → Int32) (f_sieve : Nat → Int32) (a1 : Int32) (a2 : Int32) (a3 : Int32) (res : Int32 × Int32) (hf : fX7_inner a1 a2 a3 f_kinds f_g f_bands f_sieve c_told = some res) : pq_CI l yX7_inner qsX7_inner 2 42 D cI cL [.ref th, .int a1, .int a2, .int a3] (wX7_inner cI th ad c_told c_sumZ c_sumE c_stepY c_odd c_even c_taped c_outs c_isFound f_kinds f_g f_bands f_sieve) (wX7_inner cI th ad res.2 c_sumZ c_sumE c_stepY c_odd c_even c_taped c_outs c_isFound f_kinds f_g f_bands f_sieve) res.1 := by
  refine pq_mkI (cc := cX7_inner) (maxL := 5) (RT := .int) (by decide) rfl (Nat.le_of_ble_eq_true rfl) ?_
  intro p e s m args below meth c Q A C hh hret ls hl
  have hx := C.1
  have hb := C.2.1
  have hml := C.2.2.1
  have hown : s.vm.findClass RX7 = some m.cls := C.2.2.2.1
  have hs : ∀ w ∈ wsL_law, w ∈ qsX7_inner := fun _ h => List.mem_cons_of_mem _ h
  have htw : ∀ w ∈ wsL_law, w.before args s = true := fun w h => C.2.2.2.2.1 w (hs w h)
  have hl : lv_has ls 5 [(0, .ref th), (1, .int a1), (2, .int a2), (3, .int a3)] := hl
  have i7 : ∀ w ∈ wsX70, w ∈ qsX7_inner := fun w h => hs w (pq_i7 w h)
  have kc9 := htw (.constant RX7 9 (-100000)) (pq_m3 _ (List.mem_of_getElem? (i := 20) rfl))
  have kf10 := htw (.fieldLink RX7 10 "VoiceDeskModel" "kinds" "[I") (pq_m3 _ (List.mem_of_getElem? (i := 21) rfl))
  have kf114 := htw (.fieldLink RX7 114 "VoiceDeskModel" "told" "I") (pq_m6 _ (List.mem_of_getElem? (i := 17) rfl))
  have kf17 := htw (.fieldLink RX7 17 "VoiceDeskModel" "g" "[I") (pq_m3 _ (List.mem_of_getElem? (i := 23) rfl))
  have kf69 := htw (.fieldLink RX7 69 "VoiceDeskModel" "bands" "[I") (pq_m4 _ (List.mem_of_getElem? (i := 17) rfl))
  have kf72 := htw (.fieldLink RX7 72 "VoiceDeskModel" "sieve" "[I") (pq_m4 _ (List.mem_of_getElem? (i := 18) rfl))
  have J129 : ∀ (x3 : Int32) (x4 : Int32) (c_told : Int32) (H : Heap) (locs : List Loc), pq_H D A s (wX7_inner cI th ad c_told c_sumZ c_sumE c_stepY c_odd c_even c_taped c_outs c_isFound f_kinds f_g f_bands f_sieve) H locs → ∀ ls : Array Slot, lv_has ls 5 [(0, .ref th), (3, .int x3), (4, .int x4)] → fX7_inner_b129  f_kinds f_g f_bands f_sieve x3 x4 c_told = some res → W p l e (pq_rm 2 42) s m args below meth c H locs 0 0 Q (F0 m 129 ls []) := by
    intro x3 x4 c_told H locs hh ls hl hf
    rw [fX7_inner_b129] at hf
    refine lv_iload_n hx hb dX7_inner_129 rfl (lv_at hl 1 rfl) ?_
    refine lv_bipush (v := (60 : Int32)) hx hb dX7_inner_130 (by decide) ?_
    refine lv_icmp_lt (tgt := 159) hx hb dX7_inner_132 (by decide) (fun h30 => ?_) (fun h30 => ?_)
    · have hf := pq_brt hf h30
      refine lv_ldc (v := (-100000 : Int32)) hx hb hown kc9 dX7_inner_159 ?_
      obtain rfl := Option.some.inj hf
      exact hret _ _ _ ls hh dX7_inner_161 rfl
    · have hf := pq_brf hf h30
      refine lv_iload_n hx hb dX7_inner_135 rfl (lv_at hl 1 rfl) ?_
      refine lv_bipush (v := (84 : Int32)) hx hb dX7_inner_136 (by decide) ?_
      refine lv_icmp_ge (tgt := 159) hx hb dX7_inner_138 (by decide) (fun h31 => ?_) (fun h31 => ?_)
      · have hf := pq_brt hf h31
        refine lv_ldc (v := (-100000 : Int32)) hx hb hown kc9 dX7_inner_159 ?_
        obtain rfl := Option.some.inj hf
        exact hret _ _ _ ls hh dX7_inner_161 rfl
      · have hf := pq_brf hf h31
        refine lv_aload_n hx hb dX7_inner_141 rfl (lv_at hl 0 rfl) ?_
        refine pq_get C hh i7 0 6 rfl rfl 24 (by decide) kf72 rfl rfl dX7_inner_142 ?_
        refine lv_bipush (v := (24 : Int32)) hx hb dX7_inner_145 (by decide) ?_
        refine lv_iload hx hb dX7_inner_147 (lv_at hl 2 rfl) ?_
        refine lv_imul hx hb dX7_inner_149 ?_
        refine lv_iload_n hx hb dX7_inner_150 rfl (lv_at hl 1 rfl) ?_
        refine lv_iadd hx hb dX7_inner_151 ?_
        refine lv_bipush (v := (60 : Int32)) hx hb dX7_inner_152 (by decide) ?_
        refine lv_isub hx hb dX7_inner_154 ?_
        obtain ⟨h32, hf⟩ := pq_rdx hf
        refine pq_iald C hh 4 rfl h32 dX7_inner_155 (fun v33 e34 => ?_)
        have hf := hf v33 e34
        refine lv_goto (tgt := 161) hx hb dX7_inner_156 (by decide) ?_
        obtain rfl := Option.some.inj hf
        exact hret _ _ _ ls hh dX7_inner_161 rfl
  have J101 : ∀ (x3 : Int32) (x4 : Int32) (c_told : Int32) (H : Heap) (locs : List Loc), pq_H D A s (wX7_inner cI th ad c_told c_sumZ c_sumE c_stepY c_odd c_even c_taped c_outs c_isFound f_kinds f_g f_bands f_sieve) H locs → ∀ ls : Array Slot, lv_has ls 5 [(0, .ref th), (3, .int x3), (4, .int x4)] → fX7_inner_b101  f_kinds f_g f_bands f_sieve x3 x4 c_told = some res → W p l e (pq_rm 2 42) s m args below meth c H locs 0 0 Q (F0 m 101 ls []) := by
    intro x3 x4 c_told H locs hh ls hl hf
    rw [fX7_inner_b101] at hf
    refine lv_iload_n hx hb dX7_inner_101 rfl (lv_at hl 1 rfl) ?_
    refine lv_bipush (v := (30 : Int32)) hx hb dX7_inner_102 (by decide) ?_
    refine lv_icmp_lt (tgt := 129) hx hb dX7_inner_104 (by decide) (fun h25 => ?_) (fun h25 => ?_)
    · have hf := pq_brt hf h25
      exact J129 x3 x4 c_told _ _ hh ls (lv_sub hl [0, 1, 2] rfl) hf
    · have hf := pq_brf hf h25
      refine lv_iload_n hx hb dX7_inner_107 rfl (lv_at hl 1 rfl) ?_
      refine lv_bipush (v := (53 : Int32)) hx hb dX7_inner_108 (by decide) ?_
      refine lv_icmp_ge (tgt := 129) hx hb dX7_inner_110 (by decide) (fun h26 => ?_) (fun h26 => ?_)
      · have hf := pq_brt hf h26
        exact J129 x3 x4 c_told _ _ hh ls (lv_sub hl [0, 1, 2] rfl) hf
      · have hf := pq_brf hf h26
        refine lv_aload_n hx hb dX7_inner_113 rfl (lv_at hl 0 rfl) ?_
        refine pq_get C hh i7 0 6 rfl rfl 23 (by decide) kf69 rfl rfl dX7_inner_114 ?_
        refine lv_bipush (v := (46 : Int32)) hx hb dX7_inner_117 (by decide) ?_
        refine lv_iload hx hb dX7_inner_119 (lv_at hl 2 rfl) ?_
        refine lv_imul hx hb dX7_inner_121 ?_
        refine lv_iload_n hx hb dX7_inner_122 rfl (lv_at hl 1 rfl) ?_
        refine lv_iadd hx hb dX7_inner_123 ?_
        refine lv_bipush (v := (7 : Int32)) hx hb dX7_inner_124 (by decide) ?_
        refine lv_isub hx hb dX7_inner_126 ?_
        obtain ⟨h27, hf⟩ := pq_rdx hf
        refine pq_iald C hh 3 rfl h27 dX7_inner_127 (fun v28 e29 => ?_)
        have hf := hf v28 e29
        obtain rfl := Option.some.inj hf
        exact hret _ _ _ ls hh dX7_inner_128 rfl
  rw [fX7_inner] at hf
  refine lv_aload_n hx hb dX7_inner_0 rfl (lv_at hl 0 rfl) ?_
  refine lv_iconst (v := (0 : Int32)) hx hb dX7_inner_1 (by decide) ?_
  refine pq_put (ty := .int) (v := .int (0 : Int32)) C hh i7 tyX7 tyX7_ok nmX7 0 6 rfl rfl 0 (by decide) kf114 rfl rfl (by decide +kernel) rfl rfl (Nat.le_of_ble_eq_true rfl) dX7_inner_2 (fun H locs (hh : pq_H D A s (wX7_inner cI th ad (0 : Int32) c_sumZ c_sumE c_stepY c_odd c_even c_taped c_outs c_isFound f_kinds f_g f_bands f_sieve) H locs) => ?_)
  refine lv_aload_n hx hb dX7_inner_5 rfl (lv_at hl 0 rfl) ?_
  refine lv_iload_n hx hb dX7_inner_6 rfl (lv_at hl 1 rfl) ?_
  obtain ⟨r1, hu2, hf⟩ := pq_clx hf
  refine pq_cvI (n := 1) (As := [.int a1]) C hh (qX7_isOpen l D cI cL th ad (0 : Int32) c_sumZ c_sumE c_stepY c_odd c_even c_taped c_outs c_isFound f_kinds a1 r1 hu2) (gvX7_isOpen hs (pq_m15 _ (List.mem_of_getElem? (i := 16) rfl))) rfl (by decide +kernel) ⟨Nat.le_of_ble_eq_true rfl, Nat.le_of_ble_eq_true rfl⟩ 0 6 rfl rfl rfl hl.1 rfl rfl (Nat.le_of_ble_eq_true rfl) dX7_inner_7 ⟨Nat.zero_le _, Nat.zero_le _⟩ [0, 1] [2, 3, 4] [3, 4, 0, 1, 2] rfl rfl (by decide) (by decide) (by decide) rfl (fun H locs (hh : pq_H D A s (wX7_inner cI th ad (0 : Int32) c_sumZ c_sumE c_stepY c_odd c_even c_taped c_outs c_isFound f_kinds f_g f_bands f_sieve) H locs) => ?_)
  refine lv_if_eq (tgt := 32) hx hb dX7_inner_10 (by decide) (fun h3 => ?_) (fun h3 => ?_)
  · have hf := pq_brt hf h3
    refine lv_ldc (v := (-100000 : Int32)) hx hb hown kc9 dX7_inner_32 ?_
    obtain rfl := Option.some.inj hf
    exact hret _ _ _ ls hh dX7_inner_34 rfl
  · have hf := pq_brf hf h3
    refine lv_iload_n hx hb dX7_inner_13 rfl (lv_at hl 2 rfl) ?_
    refine lv_if_lt (tgt := 32) hx hb dX7_inner_14 (by decide) (fun h4 => ?_) (fun h4 => ?_)
    · have hf := pq_brt hf h4
      refine lv_ldc (v := (-100000 : Int32)) hx hb hown kc9 dX7_inner_32 ?_
      obtain rfl := Option.some.inj hf
      exact hret _ _ _ ls hh dX7_inner_34 rfl
    · have hf := pq_brf hf h4
      refine lv_iload_n hx hb dX7_inner_17 rfl (lv_at hl 2 rfl) ?_
      refine lv_iconst (v := (1 : Int32)) hx hb dX7_inner_18 (by decide) ?_
      refine lv_icmp_gt (tgt := 32) hx hb dX7_inner_19 (by decide) (fun h5 => ?_) (fun h5 => ?_)
      · have hf := pq_brt hf h5
        refine lv_ldc (v := (-100000 : Int32)) hx hb hown kc9 dX7_inner_32 ?_
        obtain rfl := Option.some.inj hf
        exact hret _ _ _ ls hh dX7_inner_34 rfl
      · have hf := pq_brf hf h5
        refine lv_aload_n hx hb dX7_inner_22 rfl (lv_at hl 0 rfl) ?_
        refine pq_get C hh i7 0 6 rfl rfl 1 (by decide) kf10 rfl rfl dX7_inner_23 ?_
        refine lv_iload_n hx hb dX7_inner_26 rfl (lv_at hl 1 rfl) ?_
        obtain ⟨h6, hf⟩ := pq_rdx hf
        refine pq_iald C hh 1 rfl h6 dX7_inner_27 (fun v7 e8 => ?_)
        have hf := hf v7 e8
        refine lv_iconst (v := (2 : Int32)) hx hb dX7_inner_28 (by decide) ?_
        refine lv_icmp_ge (tgt := 35) hx hb dX7_inner_29 (by decide) (fun h9 => ?_) (fun h9 => ?_)
        · have hf := pq_brt hf h9
          refine lv_iconst (v := (2 : Int32)) hx hb dX7_inner_35 (by decide) ?_
          refine lv_iload_n hx hb dX7_inner_36 rfl (lv_at hl 1 rfl) ?_
          refine lv_imul hx hb dX7_inner_37 ?_
          refine lv_iload_n hx hb dX7_inner_38 rfl (lv_at hl 2 rfl) ?_
          refine lv_iadd hx hb dX7_inner_39 ?_
          refine lv_topi (fun v10 e11 => ?_)
          have hf := pq_nmx hf v10 e11
          refine lv_istore (lv' := [(4, .int v10), (0, .ref th), (1, .int a1), (2, .int a2), (3, .int a3)]) hx hb dX7_inner_40 hl (by decide) rfl (fun ls hl => ?_)
          refine lv_aload_n hx hb dX7_inner_42 rfl (lv_at hl 1 rfl) ?_
          refine lv_iload_n hx hb dX7_inner_43 rfl (lv_at hl 2 rfl) ?_
          obtain ⟨r12, hu13, hf⟩ := pq_clx hf
          refine pq_cvI (n := 1) (As := [.int a1]) C hh (qX7_isPaired l D cI cL th ad (0 : Int32) c_sumZ c_sumE c_stepY c_odd c_even c_taped c_outs c_isFound f_kinds a1 r12 hu13) (gvX7_isPaired hs (pq_m15 _ (List.mem_of_getElem? (i := 20) rfl))) rfl (by decide +kernel) ⟨Nat.le_of_ble_eq_true rfl, Nat.le_of_ble_eq_true rfl⟩ 0 6 rfl rfl rfl hl.1 rfl rfl (Nat.le_of_ble_eq_true rfl) dX7_inner_44 ⟨Nat.zero_le _, Nat.zero_le _⟩ [0, 1] [2, 3, 4] [3, 4, 0, 1, 2] rfl rfl (by decide) (by decide) (by decide) rfl (fun H locs (hh : pq_H D A s (wX7_inner cI th ad (0 : Int32) c_sumZ c_sumE c_stepY c_odd c_even c_taped c_outs c_isFound f_kinds f_g f_bands f_sieve) H locs) => ?_)
          refine lv_if_ne (tgt := 78) hx hb dX7_inner_47 (by decide) (fun h14 => ?_) (fun h14 => ?_)
          · have hf := pq_brf hf h14
            refine lv_iload_n hx hb dX7_inner_78 rfl (lv_at hl 4 rfl) ?_
            refine lv_if_lt (tgt := 101) hx hb dX7_inner_79 (by decide) (fun h15 => ?_) (fun h15 => ?_)
            · have hf := pq_brt hf h15
              exact J101 a3 v10 (0 : Int32) _ _ hh ls (lv_sub hl [1, 4, 0] rfl) hf
            · have hf := pq_brf hf h15
              refine lv_iload_n hx hb dX7_inner_82 rfl (lv_at hl 4 rfl) ?_
              refine lv_bipush (v := (23 : Int32)) hx hb dX7_inner_83 (by decide) ?_
              refine lv_icmp_ge (tgt := 101) hx hb dX7_inner_85 (by decide) (fun h16 => ?_) (fun h16 => ?_)
              · have hf := pq_brt hf h16
                exact J101 a3 v10 (0 : Int32) _ _ hh ls (lv_sub hl [1, 4, 0] rfl) hf
              · have hf := pq_brf hf h16
                refine lv_aload_n hx hb dX7_inner_88 rfl (lv_at hl 1 rfl) ?_
                refine pq_get C hh i7 0 6 rfl rfl 23 (by decide) kf69 rfl rfl dX7_inner_89 ?_
                refine lv_bipush (v := (46 : Int32)) hx hb dX7_inner_92 (by decide) ?_
                refine lv_iload hx hb dX7_inner_94 (lv_at hl 0 rfl) ?_
                refine lv_imul hx hb dX7_inner_96 ?_
                refine lv_iload_n hx hb dX7_inner_97 rfl (lv_at hl 4 rfl) ?_
                refine lv_iadd hx hb dX7_inner_98 ?_
                obtain ⟨h17, hf⟩ := pq_rdx hf
                refine pq_iald C hh 3 rfl h17 dX7_inner_99 (fun v18 e19 => ?_)
                have hf := hf v18 e19
                obtain rfl := Option.some.inj hf
                exact hret _ _ _ ls hh dX7_inner_100 rfl
          · have hf := pq_brt hf h14
            refine lv_iload_n hx hb dX7_inner_50 rfl (lv_at hl 4 rfl) ?_
            refine lv_if_lt (tgt := 75) hx hb dX7_inner_51 (by decide) (fun h20 => ?_) (fun h20 => ?_)
            · have hf := pq_brt hf h20
              refine lv_ldc (v := (-100000 : Int32)) hx hb hown kc9 dX7_inner_75 ?_
              obtain rfl := Option.some.inj hf
              exact hret _ _ _ ls hh dX7_inner_77 rfl
            · have hf := pq_brf hf h20
              refine lv_iload_n hx hb dX7_inner_54 rfl (lv_at hl 4 rfl) ?_
              refine lv_bipush (v := (24 : Int32)) hx hb dX7_inner_55 (by decide) ?_
              refine lv_icmp_ge (tgt := 75) hx hb dX7_inner_57 (by decide) (fun h21 => ?_) (fun h21 => ?_)
              · have hf := pq_brt hf h21
                refine lv_ldc (v := (-100000 : Int32)) hx hb hown kc9 dX7_inner_75 ?_
                obtain rfl := Option.some.inj hf
                exact hret _ _ _ ls hh dX7_inner_77 rfl
              · have hf := pq_brf hf h21
                refine lv_aload_n hx hb dX7_inner_60 rfl (lv_at hl 1 rfl) ?_
                refine pq_get C hh i7 0 6 rfl rfl 3 (by decide) kf17 rfl rfl dX7_inner_61 ?_
                refine lv_bipush (v := (24 : Int32)) hx hb dX7_inner_64 (by decide) ?_
                refine lv_iload hx hb dX7_inner_66 (lv_at hl 0 rfl) ?_
                refine lv_imul hx hb dX7_inner_68 ?_
                refine lv_iload_n hx hb dX7_inner_69 rfl (lv_at hl 4 rfl) ?_
                refine lv_iadd hx hb dX7_inner_70 ?_
                obtain ⟨h22, hf⟩ := pq_rdx hf
                refine pq_iald C hh 2 rfl h22 dX7_inner_71 (fun v23 e24 => ?_)
                have hf := hf v23 e24
                refine lv_goto (tgt := 77) hx hb dX7_inner_72 (by decide) ?_
                obtain rfl := Option.some.inj hf
                exact hret _ _ _ ls hh dX7_inner_77 rfl
        · have hf := pq_brf hf h9
          refine lv_ldc (v := (-100000 : Int32)) hx hb hown kc9 dX7_inner_32 ?_
          obtain rfl := Option.some.inj hf
          exact hret _ _ _ ls hh dX7_inner_34 rfl
set_option maxHeartbeats 4000000 in
set_option maxRecDepth 100000 in
theorem qX7_puts (l : Launch) (D : va_G) (cI cL : ClassId) (th : Nat) (ad : Nat → Nat) (c_told : Int32) (c_sumZ : Int32) (c_sumE : Int32) (c_stepY : Int32) (c_odd : Int32) (c_even : Int32) (c_taped : Int32) (c_outs : Int32) (c_isFound : Int32) (f_tape : Nat → Int32) (a1 : Int32) (res : Int32 × (Nat → Int32)) (hf : fX7_puts a1 c_taped f_tape = some res) : pq_CV l yX7_puts qsX7_puts 0 0 D cI cL [.ref th, .int a1] (wX7_puts cI th ad c_told c_sumZ c_sumE c_stepY c_odd c_even c_taped c_outs c_isFound f_tape) (wX7_puts cI th ad c_told c_sumZ c_sumE c_stepY c_odd c_even res.1 c_outs c_isFound res.2) := by
  refine pq_mkV (cc := cX7_puts) (maxL := 3) (by decide) rfl (Nat.le_of_ble_eq_true rfl) ?_
  intro p e s m args below meth c Q A C hh hret ls hl
  have hx := C.1
  have hb := C.2.1
  have hml := C.2.2.1
  have hown : s.vm.findClass RX7 = some m.cls := C.2.2.2.1
  have hs : ∀ w ∈ wsL_law, w ∈ qsX7_puts := fun _ h => List.mem_cons_of_mem _ h
  have htw : ∀ w ∈ wsL_law, w.before args s = true := fun w h => C.2.2.2.2.1 w (hs w h)
  have hl : lv_has ls 3 [(0, .ref th), (1, .int a1)] := hl
  have i7 : ∀ w ∈ wsX70, w ∈ qsX7_puts := fun w h => hs w (pq_i7 w h)
  have kf102 := htw (.fieldLink RX7 102 "VoiceDeskModel" "tape" "[I") (pq_m5 _ (List.mem_of_getElem? (i := 4) rfl))
  have kf254 := htw (.fieldLink RX7 254 "VoiceDeskModel" "taped" "I") (pq_m26 _ (List.mem_of_getElem? (i := 7) rfl))
  have J3 : ∀ (fuel3 : Nat) (x1 : Int32) (x2 : Int32) (c_taped : Int32) (f_tape : Nat → Int32) (H : Heap) (locs : List Loc), pq_H D A s (wX7_puts cI th ad c_told c_sumZ c_sumE c_stepY c_odd c_even c_taped c_outs c_isFound f_tape) H locs → ∀ ls : Array Slot, lv_has ls 3 [(0, .ref th), (1, .int x1), (2, .int x2)] → fX7_puts_b3   fuel3 x1 x2 c_taped f_tape = some res → W p l e (pq_rm 0 0) s m args below meth c H locs 0 0 Q (F0 m 3 ls []) := by
    intro fuel3
    induction fuel3 with
    | zero => intro x1 x2 c_taped f_tape H locs hh ls hl hf; rw [fX7_puts_b3] at hf; cases hf
    | succ fuel3 ih3 =>
      intro x1 x2 c_taped f_tape H locs hh ls hl hf
      rw [fX7_puts_b3] at hf
      refine lv_iload_n hx hb dX7_puts_3 rfl (lv_at hl 2 rfl) ?_
      refine lv_if_lt (tgt := 39) hx hb dX7_puts_4 (by decide) (fun h1 => ?_) (fun h1 => ?_)
      · have hf := pq_brt hf h1
        obtain rfl := Option.some.inj hf
        exact hret _ _ _ ls hh dX7_puts_39
      · have hf := pq_brf hf h1
        refine lv_aload_n hx hb dX7_puts_7 rfl (lv_at hl 0 rfl) ?_
        refine pq_get C hh i7 0 6 rfl rfl 36 (by decide) kf102 rfl rfl dX7_puts_8 ?_
        refine lv_aload_n hx hb dX7_puts_11 rfl (lv_at hl 0 rfl) ?_
        refine pq_get C hh i7 0 6 rfl rfl 37 (by decide) kf254 rfl rfl dX7_puts_12 ?_
        refine lv_iload_n hx hb dX7_puts_15 rfl (lv_at hl 1 rfl) ?_
        refine lv_iload_n hx hb dX7_puts_16 rfl (lv_at hl 2 rfl) ?_
        refine lv_ishr hx hb dX7_puts_17 ?_
        refine lv_sipush (v := (255 : Int32)) hx hb dX7_puts_18 (by decide) ?_
        refine lv_iand hx hb dX7_puts_21 ?_
        obtain ⟨h2, hf⟩ := pq_wrx hf
        refine pq_iast C hh 1 rfl h2 dX7_puts_22 (fun H locs f3 e4 (hh : pq_H D A s (wX7_puts cI th ad c_told c_sumZ c_sumE c_stepY c_odd c_even c_taped c_outs c_isFound f3) H locs) => ?_)
        have hf := hf f3 e4
        refine lv_aload_n hx hb dX7_puts_23 rfl (lv_at hl 0 rfl) ?_
        refine lv_aload_n hx hb dX7_puts_24 rfl (lv_at hl 0 rfl) ?_
        refine pq_get C hh i7 0 6 rfl rfl 37 (by decide) kf254 rfl rfl dX7_puts_25 ?_
        refine lv_iconst (v := (1 : Int32)) hx hb dX7_puts_28 (by decide) ?_
        refine lv_iadd hx hb dX7_puts_29 ?_
        refine lv_topi (fun v5 e6 => ?_)
        have hf := pq_nmx hf v5 e6
        refine pq_put (ty := .int) (v := .int v5) C hh i7 tyX7 tyX7_ok nmX7 0 6 rfl rfl 37 (by decide) kf254 rfl rfl (by decide +kernel) rfl rfl (Nat.le_of_ble_eq_true rfl) dX7_puts_30 (fun H locs (hh : pq_H D A s (wX7_puts cI th ad c_told c_sumZ c_sumE c_stepY c_odd c_even v5 c_outs c_isFound f3) H locs) => ?_)
        obtain ⟨v7, e8⟩ : ∃ y : Int32, y = x2 + (-8 : Int32) := ⟨_, rfl⟩
        refine lv_iinc (v := v7) (lv' := [(2, .int v7), (0, .ref th), (1, .int x1)]) hx hb dX7_puts_33 hl (k := 2) rfl (by rw [e8]; rfl) (by decide) rfl (fun ls hl => ?_)
        have hf := pq_nmx hf v7 e8
        refine lv_goto (tgt := 3) hx hb dX7_puts_36 (by decide) ?_
        exact ih3 x1 v7 v5 f3 _ _ hh ls (lv_sub hl [1, 2, 0] rfl) hf
  rw [fX7_puts] at hf
  refine lv_bipush (v := (24 : Int32)) hx hb dX7_puts_0 (by decide) ?_
  refine lv_istore_n (lv' := [(2, .int (24 : Int32)), (0, .ref th), (1, .int a1)]) hx hb dX7_puts_2 rfl hl (by decide) rfl (fun ls hl => ?_)
  exact J3 1100 a1 (24 : Int32) c_taped f_tape _ _ hh ls (lv_sub hl [1, 2, 0] rfl) hf
set_option maxHeartbeats 4000000 in
set_option maxRecDepth 100000 in
theorem qX7_feed (l : Launch) (D : va_G) (cI cL : ClassId) (th : Nat) (ad : Nat → Nat) (c_told : Int32) (c_sumZ : Int32) (c_sumE : Int32) (c_stepY : Int32) (c_odd : Int32) (c_even : Int32) (c_taped : Int32) (c_outs : Int32) (c_isFound : Int32) (f_tape : Nat → Int32) (a1 : Int32) (a2 : Int32) (a3 : Int32) (a4 : Int32) (a5 : Int32) (res : Int32 × Int32 × Int32 × (Nat → Int32)) (hf : fX7_feed a1 a2 a3 a4 a5 c_told c_taped f_tape = some res) : pq_CI l yX7_feed qsX7_feed 1 22 D cI cL [.ref th, .int a1, .int a2, .int a3, .int a4, .int a5] (wX7_feed cI th ad c_told c_sumZ c_sumE c_stepY c_odd c_even c_taped c_outs c_isFound f_tape) (wX7_feed cI th ad res.2.1 c_sumZ c_sumE c_stepY c_odd c_even res.2.2.1 c_outs c_isFound res.2.2.2) res.1 := by
  refine pq_mkI (cc := cX7_feed) (maxL := 6) (RT := .int) (by decide) rfl (Nat.le_of_ble_eq_true rfl) ?_
  intro p e s m args below meth c Q A C hh hret ls hl
  have hx := C.1
  have hb := C.2.1
  have hml := C.2.2.1
  have hown : s.vm.findClass RX7 = some m.cls := C.2.2.2.1
  have hs : ∀ w ∈ wsL_law, w ∈ qsX7_feed := fun _ h => List.mem_cons_of_mem _ h
  have htw : ∀ w ∈ wsL_law, w.before args s = true := fun w h => C.2.2.2.2.1 w (hs w h)
  have hl : lv_has ls 6 [(0, .ref th), (1, .int a1), (2, .int a2), (3, .int a3), (4, .int a4), (5, .int a5)] := hl
  have i7 : ∀ w ∈ wsX70, w ∈ qsX7_feed := fun w h => hs w (pq_i7 w h)
  have kc9 := htw (.constant RX7 9 (-100000)) (pq_m3 _ (List.mem_of_getElem? (i := 20) rfl))
  have kf114 := htw (.fieldLink RX7 114 "VoiceDeskModel" "told" "I") (pq_m6 _ (List.mem_of_getElem? (i := 17) rfl))
  have kf254 := htw (.fieldLink RX7 254 "VoiceDeskModel" "taped" "I") (pq_m26 _ (List.mem_of_getElem? (i := 7) rfl))
  rw [fX7_feed] at hf
  refine lv_aload_n hx hb dX7_feed_0 rfl (lv_at hl 0 rfl) ?_
  refine lv_iconst (v := (0 : Int32)) hx hb dX7_feed_1 (by decide) ?_
  refine pq_put (ty := .int) (v := .int (0 : Int32)) C hh i7 tyX7 tyX7_ok nmX7 0 6 rfl rfl 0 (by decide) kf114 rfl rfl (by decide +kernel) rfl rfl (Nat.le_of_ble_eq_true rfl) dX7_feed_2 (fun H locs (hh : pq_H D A s (wX7_feed cI th ad (0 : Int32) c_sumZ c_sumE c_stepY c_odd c_even c_taped c_outs c_isFound f_tape) H locs) => ?_)
  refine lv_aload_n hx hb dX7_feed_5 rfl (lv_at hl 0 rfl) ?_
  refine pq_get C hh i7 0 6 rfl rfl 37 (by decide) kf254 rfl rfl dX7_feed_6 ?_
  refine lv_bipush (v := (20 : Int32)) hx hb dX7_feed_9 (by decide) ?_
  refine lv_iadd hx hb dX7_feed_11 ?_
  refine lv_sipush (v := (1000 : Int32)) hx hb dX7_feed_12 (by decide) ?_
  refine lv_icmp_le (tgt := 21) hx hb dX7_feed_15 (by decide) (fun h1 => ?_) (fun h1 => ?_)
  · have hf := pq_brt hf h1
    refine lv_aload_n hx hb dX7_feed_21 rfl (lv_at hl 0 rfl) ?_
    refine lv_iload_n hx hb dX7_feed_22 rfl (lv_at hl 1 rfl) ?_
    obtain ⟨⟨c2, f3⟩, hu4, hf⟩ := pq_clx hf
    have hf := pq_nmx hf c2 rfl
    have hf := pq_nmx hf f3 rfl
    refine pq_cvV (n := 1) (As := [.int a1]) C hh (qX7_puts l D cI cL th ad (0 : Int32) c_sumZ c_sumE c_stepY c_odd c_even c_taped c_outs c_isFound f_tape a1 (c2, f3) hu4) (gvX7_puts hs (pq_m26 _ (List.mem_of_getElem? (i := 8) rfl))) rfl (by decide +kernel) ⟨Nat.le_of_ble_eq_true rfl, Nat.le_of_ble_eq_true rfl⟩ 0 6 rfl rfl rfl hl.1 rfl rfl (Nat.le_of_ble_eq_true rfl) dX7_feed_23 ⟨Nat.zero_le _, Nat.zero_le _⟩ [0, 1] [] [0, 1] rfl rfl (by decide) (by decide) (by decide) rfl (fun H locs (hh : pq_H D A s (wX7_feed cI th ad (0 : Int32) c_sumZ c_sumE c_stepY c_odd c_even c2 c_outs c_isFound f3) H locs) => ?_)
    refine lv_aload_n hx hb dX7_feed_26 rfl (lv_at hl 0 rfl) ?_
    refine lv_iload_n hx hb dX7_feed_27 rfl (lv_at hl 2 rfl) ?_
    obtain ⟨⟨c6, f7⟩, hu8, hf⟩ := pq_clx hf
    have hf := pq_nmx hf c6 rfl
    have hf := pq_nmx hf f7 rfl
    refine pq_cvV (n := 1) (As := [.int a2]) C hh (qX7_puts l D cI cL th ad (0 : Int32) c_sumZ c_sumE c_stepY c_odd c_even c2 c_outs c_isFound f3 a2 (c6, f7) hu8) (gvX7_puts hs (pq_m26 _ (List.mem_of_getElem? (i := 8) rfl))) rfl (by decide +kernel) ⟨Nat.le_of_ble_eq_true rfl, Nat.le_of_ble_eq_true rfl⟩ 0 6 rfl rfl rfl hl.1 rfl rfl (Nat.le_of_ble_eq_true rfl) dX7_feed_28 ⟨Nat.zero_le _, Nat.zero_le _⟩ [0, 1] [] [0, 1] rfl rfl (by decide) (by decide) (by decide) rfl (fun H locs (hh : pq_H D A s (wX7_feed cI th ad (0 : Int32) c_sumZ c_sumE c_stepY c_odd c_even c6 c_outs c_isFound f7) H locs) => ?_)
    refine lv_aload_n hx hb dX7_feed_31 rfl (lv_at hl 0 rfl) ?_
    refine lv_iload_n hx hb dX7_feed_32 rfl (lv_at hl 3 rfl) ?_
    obtain ⟨⟨c10, f11⟩, hu12, hf⟩ := pq_clx hf
    have hf := pq_nmx hf c10 rfl
    have hf := pq_nmx hf f11 rfl
    refine pq_cvV (n := 1) (As := [.int a3]) C hh (qX7_puts l D cI cL th ad (0 : Int32) c_sumZ c_sumE c_stepY c_odd c_even c6 c_outs c_isFound f7 a3 (c10, f11) hu12) (gvX7_puts hs (pq_m26 _ (List.mem_of_getElem? (i := 8) rfl))) rfl (by decide +kernel) ⟨Nat.le_of_ble_eq_true rfl, Nat.le_of_ble_eq_true rfl⟩ 0 6 rfl rfl rfl hl.1 rfl rfl (Nat.le_of_ble_eq_true rfl) dX7_feed_33 ⟨Nat.zero_le _, Nat.zero_le _⟩ [0, 1] [] [0, 1] rfl rfl (by decide) (by decide) (by decide) rfl (fun H locs (hh : pq_H D A s (wX7_feed cI th ad (0 : Int32) c_sumZ c_sumE c_stepY c_odd c_even c10 c_outs c_isFound f11) H locs) => ?_)
    refine lv_aload_n hx hb dX7_feed_36 rfl (lv_at hl 0 rfl) ?_
    refine lv_iload hx hb dX7_feed_37 (lv_at hl 4 rfl) ?_
    obtain ⟨⟨c14, f15⟩, hu16, hf⟩ := pq_clx hf
    have hf := pq_nmx hf c14 rfl
    have hf := pq_nmx hf f15 rfl
    refine pq_cvV (n := 1) (As := [.int a4]) C hh (qX7_puts l D cI cL th ad (0 : Int32) c_sumZ c_sumE c_stepY c_odd c_even c10 c_outs c_isFound f11 a4 (c14, f15) hu16) (gvX7_puts hs (pq_m26 _ (List.mem_of_getElem? (i := 8) rfl))) rfl (by decide +kernel) ⟨Nat.le_of_ble_eq_true rfl, Nat.le_of_ble_eq_true rfl⟩ 0 6 rfl rfl rfl hl.1 rfl rfl (Nat.le_of_ble_eq_true rfl) dX7_feed_39 ⟨Nat.zero_le _, Nat.zero_le _⟩ [0, 1] [] [0, 1] rfl rfl (by decide) (by decide) (by decide) rfl (fun H locs (hh : pq_H D A s (wX7_feed cI th ad (0 : Int32) c_sumZ c_sumE c_stepY c_odd c_even c14 c_outs c_isFound f15) H locs) => ?_)
    refine lv_aload_n hx hb dX7_feed_42 rfl (lv_at hl 0 rfl) ?_
    refine lv_iload hx hb dX7_feed_43 (lv_at hl 5 rfl) ?_
    obtain ⟨⟨c18, f19⟩, hu20, hf⟩ := pq_clx hf
    have hf := pq_nmx hf c18 rfl
    have hf := pq_nmx hf f19 rfl
    refine pq_cvV (n := 1) (As := [.int a5]) C hh (qX7_puts l D cI cL th ad (0 : Int32) c_sumZ c_sumE c_stepY c_odd c_even c14 c_outs c_isFound f15 a5 (c18, f19) hu20) (gvX7_puts hs (pq_m26 _ (List.mem_of_getElem? (i := 8) rfl))) rfl (by decide +kernel) ⟨Nat.le_of_ble_eq_true rfl, Nat.le_of_ble_eq_true rfl⟩ 0 6 rfl rfl rfl hl.1 rfl rfl (Nat.le_of_ble_eq_true rfl) dX7_feed_45 ⟨Nat.zero_le _, Nat.zero_le _⟩ [0, 1] [] [0, 1] rfl rfl (by decide) (by decide) (by decide) rfl (fun H locs (hh : pq_H D A s (wX7_feed cI th ad (0 : Int32) c_sumZ c_sumE c_stepY c_odd c_even c18 c_outs c_isFound f19) H locs) => ?_)
    refine lv_aload_n hx hb dX7_feed_48 rfl (lv_at hl 0 rfl) ?_
    refine pq_get C hh i7 0 6 rfl rfl 37 (by decide) kf254 rfl rfl dX7_feed_49 ?_
    obtain rfl := Option.some.inj hf
    exact hret _ _ _ ls hh dX7_feed_52 rfl
  · have hf := pq_brf hf h1
    refine lv_ldc (v := (-100000 : Int32)) hx hb hown kc9 dX7_feed_18 ?_
    obtain rfl := Option.some.inj hf
    exact hret _ _ _ ls hh dX7_feed_20 rfl
set_option maxHeartbeats 4000000 in
set_option maxRecDepth 100000 in
theorem qX7_end (l : Launch) (D : va_G) (cI cL : ClassId) (th : Nat) (ad : Nat → Nat) (c_told : Int32) (c_sumZ : Int32) (c_sumE : Int32) (c_stepY : Int32) (c_odd : Int32) (c_even : Int32) (c_taped : Int32) (c_outs : Int32) (c_isFound : Int32) (a1 : Int32) (res : Int32 × Int32 × Int32) (hf : fX7_end a1 c_told c_taped = some res) : pq_CI l yX7_end qsX7_end 0 0 D cI cL [.ref th, .int a1] (wX7_end cI th ad c_told c_sumZ c_sumE c_stepY c_odd c_even c_taped c_outs c_isFound) (wX7_end cI th ad res.2.1 c_sumZ c_sumE c_stepY c_odd c_even res.2.2 c_outs c_isFound) res.1 := by
  refine pq_mkI (cc := cX7_end) (maxL := 2) (RT := .int) (by decide) rfl (Nat.le_of_ble_eq_true rfl) ?_
  intro p e s m args below meth c Q A C hh hret ls hl
  have hx := C.1
  have hb := C.2.1
  have hml := C.2.2.1
  have hown : s.vm.findClass RX7 = some m.cls := C.2.2.2.1
  have hs : ∀ w ∈ wsL_law, w ∈ qsX7_end := fun _ h => List.mem_cons_of_mem _ h
  have htw : ∀ w ∈ wsL_law, w.before args s = true := fun w h => C.2.2.2.2.1 w (hs w h)
  have hl : lv_has ls 2 [(0, .ref th), (1, .int a1)] := hl
  have i7 : ∀ w ∈ wsX70, w ∈ qsX7_end := fun w h => hs w (pq_i7 w h)
  have kc9 := htw (.constant RX7 9 (-100000)) (pq_m3 _ (List.mem_of_getElem? (i := 20) rfl))
  have kf114 := htw (.fieldLink RX7 114 "VoiceDeskModel" "told" "I") (pq_m6 _ (List.mem_of_getElem? (i := 17) rfl))
  have kf254 := htw (.fieldLink RX7 254 "VoiceDeskModel" "taped" "I") (pq_m26 _ (List.mem_of_getElem? (i := 7) rfl))
  rw [fX7_end] at hf
  refine lv_aload_n hx hb dX7_end_0 rfl (lv_at hl 0 rfl) ?_
  refine lv_iconst (v := (0 : Int32)) hx hb dX7_end_1 (by decide) ?_
  refine pq_put (ty := .int) (v := .int (0 : Int32)) C hh i7 tyX7 tyX7_ok nmX7 0 6 rfl rfl 0 (by decide) kf114 rfl rfl (by decide +kernel) rfl rfl (Nat.le_of_ble_eq_true rfl) dX7_end_2 (fun H locs (hh : pq_H D A s (wX7_end cI th ad (0 : Int32) c_sumZ c_sumE c_stepY c_odd c_even c_taped c_outs c_isFound) H locs) => ?_)
  refine lv_iload_n hx hb dX7_end_5 rfl (lv_at hl 1 rfl) ?_
  refine lv_if_lt (tgt := 17) hx hb dX7_end_6 (by decide) (fun h1 => ?_) (fun h1 => ?_)
  · have hf := pq_brt hf h1
    refine lv_ldc (v := (-100000 : Int32)) hx hb hown kc9 dX7_end_17 ?_
    obtain rfl := Option.some.inj hf
    exact hret _ _ _ ls hh dX7_end_19 rfl
  · have hf := pq_brf hf h1
    refine lv_iload_n hx hb dX7_end_9 rfl (lv_at hl 1 rfl) ?_
    refine lv_aload_n hx hb dX7_end_10 rfl (lv_at hl 0 rfl) ?_
    refine pq_get C hh i7 0 6 rfl rfl 37 (by decide) kf254 rfl rfl dX7_end_11 ?_
    refine lv_icmp_le (tgt := 20) hx hb dX7_end_14 (by decide) (fun h2 => ?_) (fun h2 => ?_)
    · have hf := pq_brt hf h2
      refine lv_aload_n hx hb dX7_end_20 rfl (lv_at hl 0 rfl) ?_
      refine lv_iload_n hx hb dX7_end_21 rfl (lv_at hl 1 rfl) ?_
      refine pq_put (ty := .int) (v := .int a1) C hh i7 tyX7 tyX7_ok nmX7 0 6 rfl rfl 37 (by decide) kf254 rfl rfl (by decide +kernel) rfl rfl (Nat.le_of_ble_eq_true rfl) dX7_end_22 (fun H locs (hh : pq_H D A s (wX7_end cI th ad (0 : Int32) c_sumZ c_sumE c_stepY c_odd c_even a1 c_outs c_isFound) H locs) => ?_)
      refine lv_iload_n hx hb dX7_end_25 rfl (lv_at hl 1 rfl) ?_
      obtain rfl := Option.some.inj hf
      exact hret _ _ _ ls hh dX7_end_26 rfl
    · have hf := pq_brf hf h2
      refine lv_ldc (v := (-100000 : Int32)) hx hb hown kc9 dX7_end_17 ?_
      obtain rfl := Option.some.inj hf
      exact hret _ _ _ ls hh dX7_end_19 rfl
set_option maxHeartbeats 4000000 in
set_option maxRecDepth 100000 in
theorem qX7_take (l : Launch) (D : va_G) (cI cL : ClassId) (th : Nat) (ad : Nat → Nat) (c_told : Int32) (c_sumZ : Int32) (c_sumE : Int32) (c_stepY : Int32) (c_odd : Int32) (c_even : Int32) (c_taped : Int32) (c_outs : Int32) (c_isFound : Int32) (f_tape : Nat → Int32) (f_out : Nat → Int32) (res : Int32 × Int32 × Int32 × (Nat → Int32)) (hf : fX7_take c_outs f_out c_told c_taped f_tape = some res) : pq_CI l yX7_take qsX7_take 0 0 D cI cL [.ref th] (wX7_take cI th ad c_told c_sumZ c_sumE c_stepY c_odd c_even c_taped c_outs c_isFound f_tape f_out) (wX7_take cI th ad res.2.1 c_sumZ c_sumE c_stepY c_odd c_even res.2.2.1 c_outs c_isFound res.2.2.2 f_out) res.1 := by
  refine pq_mkI (cc := cX7_take) (maxL := 2) (RT := .int) (by decide) rfl (Nat.le_of_ble_eq_true rfl) ?_
  intro p e s m args below meth c Q A C hh hret ls hl
  have hx := C.1
  have hb := C.2.1
  have hml := C.2.2.1
  have hown : s.vm.findClass RX7 = some m.cls := C.2.2.2.1
  have hs : ∀ w ∈ wsL_law, w ∈ qsX7_take := fun _ h => List.mem_cons_of_mem _ h
  have htw : ∀ w ∈ wsL_law, w.before args s = true := fun w h => C.2.2.2.2.1 w (hs w h)
  have hl : lv_has ls 2 [(0, .ref th)] := hl
  have i7 : ∀ w ∈ wsX70, w ∈ qsX7_take := fun w h => hs w (pq_i7 w h)
  have kf102 := htw (.fieldLink RX7 102 "VoiceDeskModel" "tape" "[I") (pq_m5 _ (List.mem_of_getElem? (i := 4) rfl))
  have kf105 := htw (.fieldLink RX7 105 "VoiceDeskModel" "out" "[I") (pq_m5 _ (List.mem_of_getElem? (i := 5) rfl))
  have kf114 := htw (.fieldLink RX7 114 "VoiceDeskModel" "told" "I") (pq_m6 _ (List.mem_of_getElem? (i := 17) rfl))
  have kf254 := htw (.fieldLink RX7 254 "VoiceDeskModel" "taped" "I") (pq_m26 _ (List.mem_of_getElem? (i := 7) rfl))
  have kf260 := htw (.fieldLink RX7 260 "VoiceDeskModel" "outs" "I") (pq_m27 _ (List.mem_of_getElem? (i := 8) rfl))
  have J31 : ∀ (fuel31 : Nat) (x1 : Int32) (c_told : Int32) (c_taped : Int32) (f_tape : Nat → Int32) (H : Heap) (locs : List Loc), pq_H D A s (wX7_take cI th ad c_told c_sumZ c_sumE c_stepY c_odd c_even c_taped c_outs c_isFound f_tape f_out) H locs → ∀ ls : Array Slot, lv_has ls 2 [(0, .ref th), (1, .int x1)] → fX7_take_b31  c_outs f_out fuel31 x1 c_told c_taped f_tape = some res → W p l e (pq_rm 0 0) s m args below meth c H locs 0 0 Q (F0 m 31 ls []) := by
    intro fuel31
    induction fuel31 with
    | zero => intro x1 c_told c_taped f_tape H locs hh ls hl hf; rw [fX7_take_b31] at hf; cases hf
    | succ fuel31 ih31 =>
      intro x1 c_told c_taped f_tape H locs hh ls hl hf
      rw [fX7_take_b31] at hf
      refine lv_iload_n hx hb dX7_take_31 rfl (lv_at hl 1 rfl) ?_
      refine lv_aload_n hx hb dX7_take_32 rfl (lv_at hl 0 rfl) ?_
      refine pq_get C hh i7 0 6 rfl rfl 37 (by decide) kf254 rfl rfl dX7_take_33 ?_
      refine lv_icmp_ge (tgt := 57) hx hb dX7_take_36 (by decide) (fun h2 => ?_) (fun h2 => ?_)
      · have hf := pq_brt hf h2
        refine lv_aload_n hx hb dX7_take_57 rfl (lv_at hl 0 rfl) ?_
        refine pq_get C hh i7 0 6 rfl rfl 37 (by decide) kf254 rfl rfl dX7_take_58 ?_
        obtain rfl := Option.some.inj hf
        exact hret _ _ _ ls hh dX7_take_61 rfl
      · have hf := pq_brf hf h2
        refine lv_aload_n hx hb dX7_take_39 rfl (lv_at hl 0 rfl) ?_
        refine pq_get C hh i7 0 6 rfl rfl 36 (by decide) kf102 rfl rfl dX7_take_40 ?_
        refine lv_iload_n hx hb dX7_take_43 rfl (lv_at hl 1 rfl) ?_
        refine lv_aload_n hx hb dX7_take_44 rfl (lv_at hl 0 rfl) ?_
        refine pq_get C hh i7 0 6 rfl rfl 38 (by decide) kf105 rfl rfl dX7_take_45 ?_
        refine lv_iload_n hx hb dX7_take_48 rfl (lv_at hl 1 rfl) ?_
        obtain ⟨h3, hf⟩ := pq_rdx hf
        refine pq_iald C hh 2 rfl h3 dX7_take_49 (fun v4 e5 => ?_)
        have hf := hf v4 e5
        obtain ⟨h6, hf⟩ := pq_wrx hf
        refine pq_iast C hh 1 rfl h6 dX7_take_50 (fun H locs f7 e8 (hh : pq_H D A s (wX7_take cI th ad c_told c_sumZ c_sumE c_stepY c_odd c_even c_taped c_outs c_isFound f7 f_out) H locs) => ?_)
        have hf := hf f7 e8
        obtain ⟨v9, e10⟩ : ∃ y : Int32, y = x1 + (1 : Int32) := ⟨_, rfl⟩
        refine lv_iinc (v := v9) (lv' := [(1, .int v9), (0, .ref th)]) hx hb dX7_take_51 hl (k := 1) rfl (by rw [e10]; rfl) (by decide) rfl (fun ls hl => ?_)
        have hf := pq_nmx hf v9 e10
        refine lv_goto (tgt := 31) hx hb dX7_take_54 (by decide) ?_
        exact ih31 v9 c_told c_taped f7 _ _ hh ls (lv_sub hl [1, 0] rfl) hf
  have J26 : ∀ (s1 : Int32) (c_told : Int32) (c_taped : Int32) (f_tape : Nat → Int32) (H : Heap) (locs : List Loc), pq_H D A s (wX7_take cI th ad c_told c_sumZ c_sumE c_stepY c_odd c_even c_taped c_outs c_isFound f_tape f_out) H locs → ∀ ls : Array Slot, lv_has ls 2 [(0, .ref th)] → fX7_take_b26  c_outs f_out s1 c_told c_taped f_tape = some res → W p l e (pq_rm 0 0) s m args below meth c H locs 0 0 Q (F0 m 26 ls [.int s1, .ref th]) := by
    intro s1 c_told c_taped f_tape H locs hh ls hl hf
    rw [fX7_take_b26] at hf
    refine pq_put (ty := .int) (v := .int s1) C hh i7 tyX7 tyX7_ok nmX7 0 6 rfl rfl 37 (by decide) kf254 rfl rfl (by decide +kernel) rfl rfl (Nat.le_of_ble_eq_true rfl) dX7_take_26 (fun H locs (hh : pq_H D A s (wX7_take cI th ad c_told c_sumZ c_sumE c_stepY c_odd c_even s1 c_outs c_isFound f_tape f_out) H locs) => ?_)
    refine lv_iconst (v := (0 : Int32)) hx hb dX7_take_29 (by decide) ?_
    refine lv_istore_n (lv' := [(1, .int (0 : Int32)), (0, .ref th)]) hx hb dX7_take_30 rfl hl (by decide) rfl (fun ls hl => ?_)
    exact J31 1100 (0 : Int32) c_told s1 f_tape _ _ hh ls (lv_sub hl [1, 0] rfl) hf
  rw [fX7_take] at hf
  refine lv_aload_n hx hb dX7_take_0 rfl (lv_at hl 0 rfl) ?_
  refine lv_iconst (v := (0 : Int32)) hx hb dX7_take_1 (by decide) ?_
  refine pq_put (ty := .int) (v := .int (0 : Int32)) C hh i7 tyX7 tyX7_ok nmX7 0 6 rfl rfl 0 (by decide) kf114 rfl rfl (by decide +kernel) rfl rfl (Nat.le_of_ble_eq_true rfl) dX7_take_2 (fun H locs (hh : pq_H D A s (wX7_take cI th ad (0 : Int32) c_sumZ c_sumE c_stepY c_odd c_even c_taped c_outs c_isFound f_tape f_out) H locs) => ?_)
  refine lv_aload_n hx hb dX7_take_5 rfl (lv_at hl 0 rfl) ?_
  refine lv_aload_n hx hb dX7_take_6 rfl (lv_at hl 0 rfl) ?_
  refine pq_get C hh i7 0 6 rfl rfl 39 (by decide) kf260 rfl rfl dX7_take_7 ?_
  refine lv_sipush (v := (1000 : Int32)) hx hb dX7_take_10 (by decide) ?_
  refine lv_icmp_ge (tgt := 23) hx hb dX7_take_13 (by decide) (fun h1 => ?_) (fun h1 => ?_)
  · have hf := pq_brt hf h1
    refine lv_sipush (v := (1000 : Int32)) hx hb dX7_take_23 (by decide) ?_
    exact J26 (1000 : Int32) (0 : Int32) c_taped f_tape _ _ hh ls (lv_sub hl [0] rfl) hf
  · have hf := pq_brf hf h1
    refine lv_aload_n hx hb dX7_take_16 rfl (lv_at hl 0 rfl) ?_
    refine pq_get C hh i7 0 6 rfl rfl 39 (by decide) kf260 rfl rfl dX7_take_17 ?_
    refine lv_goto (tgt := 26) hx hb dX7_take_20 (by decide) ?_
    exact J26 c_outs (0 : Int32) c_taped f_tape _ _ hh ls (lv_sub hl [0] rfl) hf
set_option maxHeartbeats 4000000 in
set_option maxRecDepth 100000 in
theorem qX7_out (l : Launch) (D : va_G) (cI cL : ClassId) (th : Nat) (ad : Nat → Nat) (c_told : Int32) (c_sumZ : Int32) (c_sumE : Int32) (c_stepY : Int32) (c_odd : Int32) (c_even : Int32) (c_taped : Int32) (c_outs : Int32) (c_isFound : Int32) (f_out : Nat → Int32) (a1 : Int32) (res : Int32 × Int32) (hf : fX7_out a1 c_outs f_out c_told = some res) : pq_CI l yX7_out qsX7_out 0 0 D cI cL [.ref th, .int a1] (wX7_out cI th ad c_told c_sumZ c_sumE c_stepY c_odd c_even c_taped c_outs c_isFound f_out) (wX7_out cI th ad res.2 c_sumZ c_sumE c_stepY c_odd c_even c_taped c_outs c_isFound f_out) res.1 := by
  refine pq_mkI (cc := cX7_out) (maxL := 2) (RT := .int) (by decide) rfl (Nat.le_of_ble_eq_true rfl) ?_
  intro p e s m args below meth c Q A C hh hret ls hl
  have hx := C.1
  have hb := C.2.1
  have hml := C.2.2.1
  have hown : s.vm.findClass RX7 = some m.cls := C.2.2.2.1
  have hs : ∀ w ∈ wsL_law, w ∈ qsX7_out := fun _ h => List.mem_cons_of_mem _ h
  have htw : ∀ w ∈ wsL_law, w.before args s = true := fun w h => C.2.2.2.2.1 w (hs w h)
  have hl : lv_has ls 2 [(0, .ref th), (1, .int a1)] := hl
  have i7 : ∀ w ∈ wsX70, w ∈ qsX7_out := fun w h => hs w (pq_i7 w h)
  have kc9 := htw (.constant RX7 9 (-100000)) (pq_m3 _ (List.mem_of_getElem? (i := 20) rfl))
  have kf105 := htw (.fieldLink RX7 105 "VoiceDeskModel" "out" "[I") (pq_m5 _ (List.mem_of_getElem? (i := 5) rfl))
  have kf114 := htw (.fieldLink RX7 114 "VoiceDeskModel" "told" "I") (pq_m6 _ (List.mem_of_getElem? (i := 17) rfl))
  have kf260 := htw (.fieldLink RX7 260 "VoiceDeskModel" "outs" "I") (pq_m27 _ (List.mem_of_getElem? (i := 8) rfl))
  rw [fX7_out] at hf
  refine lv_aload_n hx hb dX7_out_0 rfl (lv_at hl 0 rfl) ?_
  refine lv_iconst (v := (0 : Int32)) hx hb dX7_out_1 (by decide) ?_
  refine pq_put (ty := .int) (v := .int (0 : Int32)) C hh i7 tyX7 tyX7_ok nmX7 0 6 rfl rfl 0 (by decide) kf114 rfl rfl (by decide +kernel) rfl rfl (Nat.le_of_ble_eq_true rfl) dX7_out_2 (fun H locs (hh : pq_H D A s (wX7_out cI th ad (0 : Int32) c_sumZ c_sumE c_stepY c_odd c_even c_taped c_outs c_isFound f_out) H locs) => ?_)
  refine lv_iload_n hx hb dX7_out_5 rfl (lv_at hl 1 rfl) ?_
  refine lv_if_lt (tgt := 26) hx hb dX7_out_6 (by decide) (fun h1 => ?_) (fun h1 => ?_)
  · have hf := pq_brt hf h1
    refine lv_ldc (v := (-100000 : Int32)) hx hb hown kc9 dX7_out_26 ?_
    obtain rfl := Option.some.inj hf
    exact hret _ _ _ ls hh dX7_out_28 rfl
  · have hf := pq_brf hf h1
    refine lv_iload_n hx hb dX7_out_9 rfl (lv_at hl 1 rfl) ?_
    refine lv_aload_n hx hb dX7_out_10 rfl (lv_at hl 0 rfl) ?_
    refine pq_get C hh i7 0 6 rfl rfl 39 (by decide) kf260 rfl rfl dX7_out_11 ?_
    refine lv_icmp_ge (tgt := 26) hx hb dX7_out_14 (by decide) (fun h2 => ?_) (fun h2 => ?_)
    · have hf := pq_brt hf h2
      refine lv_ldc (v := (-100000 : Int32)) hx hb hown kc9 dX7_out_26 ?_
      obtain rfl := Option.some.inj hf
      exact hret _ _ _ ls hh dX7_out_28 rfl
    · have hf := pq_brf hf h2
      refine lv_aload_n hx hb dX7_out_17 rfl (lv_at hl 0 rfl) ?_
      refine pq_get C hh i7 0 6 rfl rfl 38 (by decide) kf105 rfl rfl dX7_out_18 ?_
      refine lv_iload_n hx hb dX7_out_21 rfl (lv_at hl 1 rfl) ?_
      obtain ⟨h3, hf⟩ := pq_rdx hf
      refine pq_iald C hh 1 rfl h3 dX7_out_22 (fun v4 e5 => ?_)
      have hf := hf v4 e5
      refine lv_goto (tgt := 28) hx hb dX7_out_23 (by decide) ?_
      obtain rfl := Option.some.inj hf
      exact hret _ _ _ ls hh dX7_out_28 rfl
set_option maxHeartbeats 4000000 in
set_option maxRecDepth 100000 in
theorem qX7_sampleAt (l : Launch) (D : va_G) (cI cL : ClassId) (th : Nat) (ad : Nat → Nat) (c_told : Int32) (c_sumZ : Int32) (c_sumE : Int32) (c_stepY : Int32) (c_odd : Int32) (c_even : Int32) (c_taped : Int32) (c_outs : Int32) (c_isFound : Int32) (f_tape : Nat → Int32) (a1 : Int32) (res : Int32) (hf : fX7_sampleAt a1 f_tape = some res) : pq_CI l yX7_sampleAt qsX7_sampleAt 1 21 D cI cL [.ref th, .int a1] (wX7_sampleAt cI th ad c_told c_sumZ c_sumE c_stepY c_odd c_even c_taped c_outs c_isFound f_tape) (wX7_sampleAt cI th ad c_told c_sumZ c_sumE c_stepY c_odd c_even c_taped c_outs c_isFound f_tape) res := by
  refine pq_mkI (cc := cX7_sampleAt) (maxL := 2) (RT := .int) (by decide) rfl (Nat.le_of_ble_eq_true rfl) ?_
  intro p e s m args below meth c Q A C hh hret ls hl
  have hx := C.1
  have hb := C.2.1
  have hml := C.2.2.1
  have hown : s.vm.findClass RX7 = some m.cls := C.2.2.2.1
  have hs : ∀ w ∈ wsL_law, w ∈ qsX7_sampleAt := fun _ h => List.mem_cons_of_mem _ h
  have htw : ∀ w ∈ wsL_law, w.before args s = true := fun w h => C.2.2.2.2.1 w (hs w h)
  have hl : lv_has ls 2 [(0, .ref th), (1, .int a1)] := hl
  have i7 : ∀ w ∈ wsX70, w ∈ qsX7_sampleAt := fun w h => hs w (pq_i7 w h)
  have kf102 := htw (.fieldLink RX7 102 "VoiceDeskModel" "tape" "[I") (pq_m5 _ (List.mem_of_getElem? (i := 4) rfl))
  rw [fX7_sampleAt] at hf
  refine lv_aload_n hx hb dX7_sampleAt_0 rfl (lv_at hl 0 rfl) ?_
  refine lv_aload_n hx hb dX7_sampleAt_1 rfl (lv_at hl 0 rfl) ?_
  refine pq_get C hh i7 0 6 rfl rfl 36 (by decide) kf102 rfl rfl dX7_sampleAt_2 ?_
  refine lv_iload_n hx hb dX7_sampleAt_5 rfl (lv_at hl 1 rfl) ?_
  obtain ⟨h1, hf⟩ := pq_rdx hf
  refine pq_iald C hh 1 rfl h1 dX7_sampleAt_6 (fun v2 e3 => ?_)
  have hf := hf v2 e3
  refine lv_bipush (v := (8 : Int32)) hx hb dX7_sampleAt_7 (by decide) ?_
  refine lv_ishl hx hb dX7_sampleAt_9 ?_
  refine lv_aload_n hx hb dX7_sampleAt_10 rfl (lv_at hl 0 rfl) ?_
  refine pq_get C hh i7 0 6 rfl rfl 36 (by decide) kf102 rfl rfl dX7_sampleAt_11 ?_
  refine lv_iload_n hx hb dX7_sampleAt_14 rfl (lv_at hl 1 rfl) ?_
  refine lv_iconst (v := (1 : Int32)) hx hb dX7_sampleAt_15 (by decide) ?_
  refine lv_iadd hx hb dX7_sampleAt_16 ?_
  obtain ⟨h4, hf⟩ := pq_rdx hf
  refine pq_iald C hh 1 rfl h4 dX7_sampleAt_17 (fun v5 e6 => ?_)
  have hf := hf v5 e6
  refine lv_ior hx hb dX7_sampleAt_18 ?_
  obtain ⟨r7, hu8, hf⟩ := pq_clx hf
  refine pq_cvI (n := 1) (As := [.int ((v2 <<< ((8 : Int32) &&& 31)) ||| v5)]) C hh (qX7_wrapped l D cI cL th ((v2 <<< ((8 : Int32) &&& 31)) ||| v5) r7 hu8) (gvX7_wrapped hs (pq_m17 _ (List.mem_of_getElem? (i := 19) rfl))) rfl (by decide +kernel) ⟨Nat.le_of_ble_eq_true rfl, Nat.le_of_ble_eq_true rfl⟩ 0 6 rfl rfl rfl hl.1 rfl rfl (Nat.le_of_ble_eq_true rfl) dX7_sampleAt_19 ⟨Nat.zero_le _, Nat.zero_le _⟩ [] [0, 1] [0, 1] rfl rfl (by decide) (by decide) (by decide) rfl (fun H locs (hh : pq_H D A s (wX7_sampleAt cI th ad c_told c_sumZ c_sumE c_stepY c_odd c_even c_taped c_outs c_isFound f_tape) H locs) => ?_)
  obtain rfl := Option.some.inj hf
  exact hret _ _ _ ls hh dX7_sampleAt_22 rfl
set_option maxHeartbeats 4000000 in
set_option maxRecDepth 100000 in
theorem qX7_bit (l : Launch) (D : va_G) (cI cL : ClassId) (th : Nat) (ad : Nat → Nat) (c_told : Int32) (c_sumZ : Int32) (c_sumE : Int32) (c_stepY : Int32) (c_odd : Int32) (c_even : Int32) (c_taped : Int32) (c_outs : Int32) (c_isFound : Int32) (f_out : Nat → Int32) (a1 : Int32) (a2 : Int32) (a3 : Int32) (res : (Nat → Int32)) (hf : fX7_bit a1 a2 a3 f_out = some res) : pq_CV l yX7_bit qsX7_bit 0 0 D cI cL [.ref th, .int a1, .int a2, .int a3] (wX7_bit cI th ad c_told c_sumZ c_sumE c_stepY c_odd c_even c_taped c_outs c_isFound f_out) (wX7_bit cI th ad c_told c_sumZ c_sumE c_stepY c_odd c_even c_taped c_outs c_isFound res) := by
  refine pq_mkV (cc := cX7_bit) (maxL := 4) (by decide) rfl (Nat.le_of_ble_eq_true rfl) ?_
  intro p e s m args below meth c Q A C hh hret ls hl
  have hx := C.1
  have hb := C.2.1
  have hml := C.2.2.1
  have hown : s.vm.findClass RX7 = some m.cls := C.2.2.2.1
  have hs : ∀ w ∈ wsL_law, w ∈ qsX7_bit := fun _ h => List.mem_cons_of_mem _ h
  have htw : ∀ w ∈ wsL_law, w.before args s = true := fun w h => C.2.2.2.2.1 w (hs w h)
  have hl : lv_has ls 4 [(0, .ref th), (1, .int a1), (2, .int a2), (3, .int a3)] := hl
  have i7 : ∀ w ∈ wsX70, w ∈ qsX7_bit := fun w h => hs w (pq_i7 w h)
  have kf105 := htw (.fieldLink RX7 105 "VoiceDeskModel" "out" "[I") (pq_m5 _ (List.mem_of_getElem? (i := 5) rfl))
  have J36 : ∀ (s1 : Int32) (s2 : Int32) (s3 : Int32) (s4 : Int32) (f_out : Nat → Int32) (H : Heap) (locs : List Loc), pq_H D A s (wX7_bit cI th ad c_told c_sumZ c_sumE c_stepY c_odd c_even c_taped c_outs c_isFound f_out) H locs → ∀ ls : Array Slot, lv_has ls 4 [] → fX7_bit_b36   s1 s2 s3 s4 f_out = some res → W p l e (pq_rm 0 0) s m args below meth c H locs 0 0 Q (F0 m 36 ls [.int s4, .int s3, .int s2, .int s1, .ref (ad 38)]) := by
    intro s1 s2 s3 s4 f_out H locs hh ls hl hf
    rw [fX7_bit_b36] at hf
    refine lv_ishl hx hb dX7_bit_36 ?_
    refine lv_ior hx hb dX7_bit_37 ?_
    obtain ⟨h9, hf⟩ := pq_wrx hf
    refine pq_iast C hh 1 rfl h9 dX7_bit_38 (fun H locs f10 e11 (hh : pq_H D A s (wX7_bit cI th ad c_told c_sumZ c_sumE c_stepY c_odd c_even c_taped c_outs c_isFound f10) H locs) => ?_)
    have hf := hf f10 e11
    obtain rfl := Option.some.inj hf
    exact hret _ _ _ ls hh dX7_bit_39
  rw [fX7_bit] at hf
  refine lv_aload_n hx hb dX7_bit_0 rfl (lv_at hl 0 rfl) ?_
  refine pq_get C hh i7 0 6 rfl rfl 38 (by decide) kf105 rfl rfl dX7_bit_1 ?_
  refine lv_iload_n hx hb dX7_bit_4 rfl (lv_at hl 1 rfl) ?_
  refine lv_bipush (v := (8 : Int32)) hx hb dX7_bit_5 (by decide) ?_
  obtain ⟨h1, hf⟩ := pq_nzx hf
  refine lv_idiv hx hb dX7_bit_7 h1 ?_
  refine lv_aload_n hx hb dX7_bit_8 rfl (lv_at hl 0 rfl) ?_
  refine pq_get C hh i7 0 6 rfl rfl 38 (by decide) kf105 rfl rfl dX7_bit_9 ?_
  refine lv_iload_n hx hb dX7_bit_12 rfl (lv_at hl 1 rfl) ?_
  refine lv_bipush (v := (8 : Int32)) hx hb dX7_bit_13 (by decide) ?_
  obtain ⟨h2, hf⟩ := pq_nzx hf
  refine lv_idiv hx hb dX7_bit_15 h2 ?_
  obtain ⟨h3, hf⟩ := pq_rdx hf
  refine pq_iald C hh 1 rfl h3 dX7_bit_16 (fun v4 e5 => ?_)
  have hf := hf v4 e5
  refine lv_iload_n hx hb dX7_bit_17 rfl (lv_at hl 2 rfl) ?_
  refine lv_iload_n hx hb dX7_bit_18 rfl (lv_at hl 3 rfl) ?_
  refine lv_if_eq (tgt := 32) hx hb dX7_bit_19 (by decide) (fun h6 => ?_) (fun h6 => ?_)
  · have hf := pq_brt hf h6
    refine lv_iload_n hx hb dX7_bit_32 rfl (lv_at hl 1 rfl) ?_
    refine lv_bipush (v := (8 : Int32)) hx hb dX7_bit_33 (by decide) ?_
    obtain ⟨h7, hf⟩ := pq_nzx hf
    refine lv_irem hx hb dX7_bit_35 h7 ?_
    exact J36 (a1 / (8 : Int32)) v4 a2 (a1 - a1 / (8 : Int32) * (8 : Int32)) f_out _ _ hh ls (lv_sub hl [] rfl) hf
  · have hf := pq_brf hf h6
    refine lv_bipush (v := (7 : Int32)) hx hb dX7_bit_22 (by decide) ?_
    refine lv_iload_n hx hb dX7_bit_24 rfl (lv_at hl 1 rfl) ?_
    refine lv_bipush (v := (8 : Int32)) hx hb dX7_bit_25 (by decide) ?_
    obtain ⟨h8, hf⟩ := pq_nzx hf
    refine lv_irem hx hb dX7_bit_27 h8 ?_
    refine lv_isub hx hb dX7_bit_28 ?_
    refine lv_goto (tgt := 36) hx hb dX7_bit_29 (by decide) ?_
    exact J36 (a1 / (8 : Int32)) v4 a2 ((7 : Int32) - (a1 - a1 / (8 : Int32) * (8 : Int32))) f_out _ _ hh ls (lv_sub hl [] rfl) hf
