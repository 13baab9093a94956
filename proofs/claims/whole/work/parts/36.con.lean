set_option maxHeartbeats 4000000 in
set_option maxRecDepth 100000 in
theorem qX6_hear_i (l : Launch) (D : va_G) (cI cL : ClassId) (La : Nat → Nat) (th : Nat) (th_tape : Nat) (th_result : Nat) (th_lines : Nat) (ln : Nat) (ln_adpcmSpeaker : Nat) (ln_wideSpeaker : Nat) (ln_adpcmHearer : Nat) (ln_adpcmHearer_numbers : Nat) (ln_wideHearer : Nat) (ln_wideHearer_low : Nat) (ln_wideHearer_low_numbers : Nat) (ln_wideHearer_high : Nat) (ln_wideHearer_high_numbers : Nat) (ln_wideHearer_x : Nat) (c_ln_kind : Int32) (c_ln_adpcmHearer_bits : Int32) (c_ln_adpcmHearer_se : Int32) (c_ln_adpcmHearer_sz : Int32) (c_ln_adpcmHearer_step : Int32) (f_ln_adpcmHearer_numbers : Nat → Int32) (c_ln_wideHearer_secondHeard : Int32) (f_ln_wideHearer_low_numbers : Nat → Int32) (f_ln_wideHearer_high_numbers : Nat → Int32) (f_ln_wideHearer_x : Nat → Int32) (a1 : Int32) (a2 : Int32) (hLa1 : La a1.toNatClampNeg = ln) (res : Int32 × Int32 × Int32 × Int32 × (Nat → Int32) × Int32 × (Nat → Int32) × (Nat → Int32) × (Nat → Int32)) (hf : fX6_hear_i a1 a2 c_ln_kind c_ln_adpcmHearer_bits c_ln_adpcmHearer_se c_ln_adpcmHearer_sz c_ln_adpcmHearer_step f_ln_adpcmHearer_numbers c_ln_wideHearer_secondHeard f_ln_wideHearer_low_numbers f_ln_wideHearer_high_numbers f_ln_wideHearer_x = some res) : pq_CI l yX6_hear qsX6_hear 6 148 D cI cL [.ref th, .int a1, .int a2] (wX6_hear_i cI cL La th th_tape th_result th_lines ln ln_adpcmSpeaker ln_wideSpeaker ln_adpcmHearer ln_adpcmHearer_numbers ln_wideHearer ln_wideHearer_low ln_wideHearer_low_numbers ln_wideHearer_high ln_wideHearer_high_numbers ln_wideHearer_x c_ln_kind c_ln_adpcmHearer_bits c_ln_adpcmHearer_se c_ln_adpcmHearer_sz c_ln_adpcmHearer_step f_ln_adpcmHearer_numbers c_ln_wideHearer_secondHeard f_ln_wideHearer_low_numbers f_ln_wideHearer_high_numbers f_ln_wideHearer_x) (wX6_hear_i cI cL La th th_tape th_result th_lines ln ln_adpcmSpeaker ln_wideSpeaker ln_adpcmHearer ln_adpcmHearer_numbers ln_wideHearer ln_wideHearer_low ln_wideHearer_low_numbers ln_wideHearer_high ln_wideHearer_high_numbers ln_wideHearer_x c_ln_kind c_ln_adpcmHearer_bits res.2.1 res.2.2.1 res.2.2.2.1 res.2.2.2.2.1 res.2.2.2.2.2.1 res.2.2.2.2.2.2.1 res.2.2.2.2.2.2.2.1 res.2.2.2.2.2.2.2.2) res.1 := by
  refine pq_mkI (cc := cX6_hear) (maxL := 4) (RT := .int) (by decide) rfl (Nat.le_of_ble_eq_true rfl) ?_
  intro p e s m args below meth c Q A C hh hret ls hl
  have hx := C.1
  have hb := C.2.1
  have hml := C.2.2.1
  have hown : s.vm.findClass RX6 = some m.cls := C.2.2.2.1
  have hs : ∀ w ∈ wsL_law, w ∈ qsX6_hear := fun _ h => List.mem_cons_of_mem _ h
  have htw : ∀ w ∈ wsL_law, w.before args s = true := fun w h => C.2.2.2.2.1 w (hs w h)
  have hl : lv_has ls 4 [(0, .ref th), (1, .int a1), (2, .int a2)] := hl
  have kc34 := htw (.constant RX6 34 (-100000)) (pq_m7 _ (List.mem_of_getElem? (i := 3) rfl))
  rw [fX6_hear_i] at hf
  refine lv_aload_n hx hb dX6_hear_0 rfl (lv_at hl 0 rfl) ?_
  refine lv_iload_n hx hb dX6_hear_1 rfl (lv_at hl 1 rfl) ?_
  obtain ⟨r1, hu2, hf⟩ := pq_clx hf
  refine pq_cvQ (n := 1) (As := [.int a1]) C hh (qX6_openLine_i l D cI cL La th th_tape th_result th_lines ln ln_adpcmSpeaker ln_adpcmHearer ln_wideSpeaker ln_wideHearer c_ln_kind a1 hLa1 r1 hu2) (gvX6_openLine hs (pq_m7 _ (List.mem_of_getElem? (i := 4) rfl))) rfl (by decide +kernel) ⟨Nat.le_of_ble_eq_true rfl, Nat.le_of_ble_eq_true rfl⟩ 0 5 rfl rfl rfl hl.1 rfl rfl (Nat.le_of_ble_eq_true rfl) dX6_hear_2 ⟨Nat.zero_le _, Nat.zero_le _⟩ [0, 1, 2] [3, 4, 5, 6, 7, 8, 9, 10] [8, 9, 10, 0, 1, 2, 3, 4, 5, 6, 7] rfl rfl (by decide) (by decide) (by decide) rfl (fun H locs (hh : pq_H D A s (wX6_hear_i cI cL La th th_tape th_result th_lines ln ln_adpcmSpeaker ln_wideSpeaker ln_adpcmHearer ln_adpcmHearer_numbers ln_wideHearer ln_wideHearer_low ln_wideHearer_low_numbers ln_wideHearer_high ln_wideHearer_high_numbers ln_wideHearer_x c_ln_kind c_ln_adpcmHearer_bits c_ln_adpcmHearer_se c_ln_adpcmHearer_sz c_ln_adpcmHearer_step f_ln_adpcmHearer_numbers c_ln_wideHearer_secondHeard f_ln_wideHearer_low_numbers f_ln_wideHearer_high_numbers f_ln_wideHearer_x) H locs) => ?_)
  by_cases h3 : r1 = 0
  · have hf := pq_brt hf h3
    rw [if_pos h3]
    refine W.eq (g2 := F0 m 5 ls [.null]) rfl ?_
    refine lv_astore_nN (lv' := [(3, .null), (0, .ref th), (1, .int a1), (2, .int a2)]) hx hb dX6_hear_5 rfl hl (by decide) rfl (fun ls hl => ?_)
    refine lv_aload_nN hx hb dX6_hear_6 rfl (lv_at hl 0 rfl) ?_
    refine lv_ifnullN (tgt := 18) hx hb dX6_hear_7 (by decide) ?_
    refine lv_ldc (v := (-100000 : Int32)) hx hb hown kc34 dX6_hear_18 ?_
    obtain rfl := Option.some.inj hf
    exact hret _ _ _ ls hh dX6_hear_20 rfl
  · have hf := pq_brf hf h3
    rw [if_neg h3]
    refine W.eq (g2 := F0 m 5 ls [.ref ln]) rfl ?_
    refine lv_astore_n (lv' := [(3, .ref ln), (0, .ref th), (1, .int a1), (2, .int a2)]) hx hb dX6_hear_5 rfl hl (by decide) rfl (fun ls hl => ?_)
    refine lv_aload_n hx hb dX6_hear_6 rfl (lv_at hl 0 rfl) ?_
    refine lv_ifnull hx hb dX6_hear_7 ?_
    refine lv_aload_n hx hb dX6_hear_10 rfl (lv_at hl 0 rfl) ?_
    refine lv_iload_n hx hb dX6_hear_11 rfl (lv_at hl 3 rfl) ?_
    obtain ⟨r4, hu5, hf⟩ := pq_clx hf
    refine pq_cvI (n := 1) (As := [.int a2]) C hh (qX4_hasCode l D cI cL ln ln_adpcmSpeaker ln_adpcmHearer ln_wideSpeaker ln_wideHearer c_ln_kind a2 r4 hu5) (gvX4_hasCode hs (pq_m21 _ (List.mem_of_getElem? (i := 1) rfl))) rfl (by decide +kernel) ⟨Nat.le_of_ble_eq_true rfl, Nat.le_of_ble_eq_true rfl⟩ 2 3 rfl rfl rfl hl.1 rfl rfl (Nat.le_of_ble_eq_true rfl) dX6_hear_12 ⟨Nat.zero_le _, Nat.zero_le _⟩ [2] [0, 1, 3, 4, 5, 6, 7, 8, 9, 10] [0, 1, 10, 2, 3, 4, 5, 6, 7, 8, 9] rfl rfl (by decide) (by decide) (by decide) rfl (fun H locs (hh : pq_H D A s (wX6_hear_i cI cL La th th_tape th_result th_lines ln ln_adpcmSpeaker ln_wideSpeaker ln_adpcmHearer ln_adpcmHearer_numbers ln_wideHearer ln_wideHearer_low ln_wideHearer_low_numbers ln_wideHearer_high ln_wideHearer_high_numbers ln_wideHearer_x c_ln_kind c_ln_adpcmHearer_bits c_ln_adpcmHearer_se c_ln_adpcmHearer_sz c_ln_adpcmHearer_step f_ln_adpcmHearer_numbers c_ln_wideHearer_secondHeard f_ln_wideHearer_low_numbers f_ln_wideHearer_high_numbers f_ln_wideHearer_x) H locs) => ?_)
    refine lv_if_ne (tgt := 21) hx hb dX6_hear_15 (by decide) (fun h6 => ?_) (fun h6 => ?_)
    · have hf := pq_brf hf h6
      refine lv_aload_n hx hb dX6_hear_21 rfl (lv_at hl 0 rfl) ?_
      refine lv_iload_n hx hb dX6_hear_22 rfl (lv_at hl 3 rfl) ?_
      obtain ⟨⟨r7, c8, c9, c10, f11, c12, f13, f14, f15⟩, hu16, hf⟩ := pq_clx hf
      have hf := pq_nmx hf r7 rfl
      have hf := pq_nmx hf c8 rfl
      have hf := pq_nmx hf c9 rfl
      have hf := pq_nmx hf c10 rfl
      have hf := pq_nmx hf f11 rfl
      have hf := pq_nmx hf c12 rfl
      have hf := pq_nmx hf f13 rfl
      have hf := pq_nmx hf f14 rfl
      have hf := pq_nmx hf f15 rfl
      refine pq_cvI (n := 1) (As := [.int a2]) C hh (qX4_decode l D cI cL ln ln_adpcmSpeaker ln_wideSpeaker ln_adpcmHearer ln_adpcmHearer_numbers ln_wideHearer ln_wideHearer_low ln_wideHearer_low_numbers ln_wideHearer_high ln_wideHearer_high_numbers ln_wideHearer_x c_ln_kind c_ln_adpcmHearer_bits c_ln_adpcmHearer_se c_ln_adpcmHearer_sz c_ln_adpcmHearer_step f_ln_adpcmHearer_numbers c_ln_wideHearer_secondHeard f_ln_wideHearer_low_numbers f_ln_wideHearer_high_numbers f_ln_wideHearer_x a2 (r7, c8, c9, c10, f11, c12, f13, f14, f15) hu16) (gvX4_decode hs (pq_m21 _ (List.mem_of_getElem? (i := 9) rfl))) rfl (by decide +kernel) ⟨Nat.le_of_ble_eq_true rfl, Nat.le_of_ble_eq_true rfl⟩ 2 3 rfl rfl rfl hl.1 rfl rfl (Nat.le_of_ble_eq_true rfl) dX6_hear_23 ⟨Nat.zero_le _, Nat.zero_le _⟩ [2, 3, 4, 5, 6, 7, 8, 9, 10] [0, 1] [0, 1, 2, 3, 4, 5, 6, 7, 8, 9, 10] rfl rfl (by decide) (by decide) (by decide) rfl (fun H locs (hh : pq_H D A s (wX6_hear_i cI cL La th th_tape th_result th_lines ln ln_adpcmSpeaker ln_wideSpeaker ln_adpcmHearer ln_adpcmHearer_numbers ln_wideHearer ln_wideHearer_low ln_wideHearer_low_numbers ln_wideHearer_high ln_wideHearer_high_numbers ln_wideHearer_x c_ln_kind c_ln_adpcmHearer_bits c8 c9 c10 f11 c12 f13 f14 f15) H locs) => ?_)
      obtain rfl := Option.some.inj hf
      exact hret _ _ _ ls hh dX6_hear_26 rfl
    · have hf := pq_brt hf h6
      refine lv_ldc (v := (-100000 : Int32)) hx hb hown kc34 dX6_hear_18 ?_
      obtain rfl := Option.some.inj hf
      exact hret _ _ _ ls hh dX6_hear_20 rfl
set_option maxHeartbeats 4000000 in
set_option maxRecDepth 100000 in
theorem qX6_second_o (l : Launch) (D : va_G) (cI cL : ClassId) (th : Nat) (th_lines : Nat) (th_tape : Nat) (th_result : Nat) (a1 : Int32) (res : Int32) (hf : fX6_second_o a1 = some res) : pq_CI l yX6_second qsX6_second 1 22 D cI cL [.ref th, .int a1] (wX6_second_o cI th th_lines th_tape th_result) (wX6_second_o cI th th_lines th_tape th_result) res := by
  refine pq_mkI (cc := cX6_second) (maxL := 3) (RT := .int) (by decide) rfl (Nat.le_of_ble_eq_true rfl) ?_
  intro p e s m args below meth c Q A C hh hret ls hl
  have hx := C.1
  have hb := C.2.1
  have hml := C.2.2.1
  have hown : s.vm.findClass RX6 = some m.cls := C.2.2.2.1
  have hs : ∀ w ∈ wsL_law, w ∈ qsX6_second := fun _ h => List.mem_cons_of_mem _ h
  have htw : ∀ w ∈ wsL_law, w.before args s = true := fun w h => C.2.2.2.2.1 w (hs w h)
  have hl : lv_has ls 3 [(0, .ref th), (1, .int a1)] := hl
  have kc34 := htw (.constant RX6 34 (-100000)) (pq_m7 _ (List.mem_of_getElem? (i := 3) rfl))
  rw [fX6_second_o] at hf
  refine lv_aload_n hx hb dX6_second_0 rfl (lv_at hl 0 rfl) ?_
  refine lv_iload_n hx hb dX6_second_1 rfl (lv_at hl 1 rfl) ?_
  obtain ⟨u2, hu1, hf⟩ := pq_clx hf
  refine pq_cvQ (n := 1) (As := [.int a1]) C hh (qX6_openLine_o l D cI cL th th_lines th_tape th_result a1 u2 hu1) (gvX6_openLine hs (pq_m7 _ (List.mem_of_getElem? (i := 4) rfl))) rfl (by decide +kernel) ⟨Nat.le_of_ble_eq_true rfl, Nat.le_of_ble_eq_true rfl⟩ 0 5 rfl rfl rfl hl.1 rfl rfl (Nat.le_of_ble_eq_true rfl) dX6_second_2 ⟨Nat.zero_le _, Nat.zero_le _⟩ [0] [] [0] rfl rfl (by decide) (by decide) (by decide) rfl (fun H locs (hh : pq_H D A s (wX6_second_o cI th th_lines th_tape th_result) H locs) => ?_)
  refine lv_astore_nN (lv' := [(2, .null), (0, .ref th), (1, .int a1)]) hx hb dX6_second_5 rfl hl (by decide) rfl (fun ls hl => ?_)
  refine lv_aload_nN hx hb dX6_second_6 rfl (lv_at hl 0 rfl) ?_
  refine lv_ifnullN (tgt := 17) hx hb dX6_second_7 (by decide) ?_
  refine lv_ldc (v := (-100000 : Int32)) hx hb hown kc34 dX6_second_17 ?_
  obtain rfl := Option.some.inj hf
  exact hret _ _ _ ls hh dX6_second_19 rfl
set_option maxHeartbeats 4000000 in
set_option maxRecDepth 100000 in
theorem qX6_second_i (l : Launch) (D : va_G) (cI cL : ClassId) (La : Nat → Nat) (th : Nat) (th_tape : Nat) (th_result : Nat) (th_lines : Nat) (ln : Nat) (ln_adpcmSpeaker : Nat) (ln_adpcmHearer : Nat) (ln_wideSpeaker : Nat) (ln_wideHearer : Nat) (ln_wideHearer_low : Nat) (ln_wideHearer_high : Nat) (ln_wideHearer_x : Nat) (c_ln_kind : Int32) (c_ln_wideHearer_secondHeard : Int32) (a1 : Int32) (hLa1 : La a1.toNatClampNeg = ln) (res : Int32) (hf : fX6_second_i a1 c_ln_kind c_ln_wideHearer_secondHeard = some res) : pq_CI l yX6_second qsX6_second 1 22 D cI cL [.ref th, .int a1] (wX6_second_i cI cL La th th_tape th_result th_lines ln ln_adpcmSpeaker ln_adpcmHearer ln_wideSpeaker ln_wideHearer ln_wideHearer_low ln_wideHearer_high ln_wideHearer_x c_ln_kind c_ln_wideHearer_secondHeard) (wX6_second_i cI cL La th th_tape th_result th_lines ln ln_adpcmSpeaker ln_adpcmHearer ln_wideSpeaker ln_wideHearer ln_wideHearer_low ln_wideHearer_high ln_wideHearer_x c_ln_kind c_ln_wideHearer_secondHeard) res := by
  refine pq_mkI (cc := cX6_second) (maxL := 3) (RT := .int) (by decide) rfl (Nat.le_of_ble_eq_true rfl) ?_
  intro p e s m args below meth c Q A C hh hret ls hl
  have hx := C.1
  have hb := C.2.1
  have hml := C.2.2.1
  have hown : s.vm.findClass RX6 = some m.cls := C.2.2.2.1
  have hs : ∀ w ∈ wsL_law, w ∈ qsX6_second := fun _ h => List.mem_cons_of_mem _ h
  have htw : ∀ w ∈ wsL_law, w.before args s = true := fun w h => C.2.2.2.2.1 w (hs w h)
  have hl : lv_has ls 3 [(0, .ref th), (1, .int a1)] := hl
  have kc34 := htw (.constant RX6 34 (-100000)) (pq_m7 _ (List.mem_of_getElem? (i := 3) rfl))
  rw [fX6_second_i] at hf
  refine lv_aload_n hx hb dX6_second_0 rfl (lv_at hl 0 rfl) ?_
  refine lv_iload_n hx hb dX6_second_1 rfl (lv_at hl 1 rfl) ?_
  obtain ⟨r1, hu2, hf⟩ := pq_clx hf
  refine pq_cvQ (n := 1) (As := [.int a1]) C hh (qX6_openLine_i l D cI cL La th th_tape th_result th_lines ln ln_adpcmSpeaker ln_adpcmHearer ln_wideSpeaker ln_wideHearer c_ln_kind a1 hLa1 r1 hu2) (gvX6_openLine hs (pq_m7 _ (List.mem_of_getElem? (i := 4) rfl))) rfl (by decide +kernel) ⟨Nat.le_of_ble_eq_true rfl, Nat.le_of_ble_eq_true rfl⟩ 0 5 rfl rfl rfl hl.1 rfl rfl (Nat.le_of_ble_eq_true rfl) dX6_second_2 ⟨Nat.zero_le _, Nat.zero_le _⟩ [0, 1, 2] [3] [1, 2, 3, 0] rfl rfl (by decide) (by decide) (by decide) rfl (fun H locs (hh : pq_H D A s (wX6_second_i cI cL La th th_tape th_result th_lines ln ln_adpcmSpeaker ln_adpcmHearer ln_wideSpeaker ln_wideHearer ln_wideHearer_low ln_wideHearer_high ln_wideHearer_x c_ln_kind c_ln_wideHearer_secondHeard) H locs) => ?_)
  by_cases h3 : r1 = 0
  · have hf := pq_brt hf h3
    rw [if_pos h3]
    refine W.eq (g2 := F0 m 5 ls [.null]) rfl ?_
    refine lv_astore_nN (lv' := [(2, .null), (0, .ref th), (1, .int a1)]) hx hb dX6_second_5 rfl hl (by decide) rfl (fun ls hl => ?_)
    refine lv_aload_nN hx hb dX6_second_6 rfl (lv_at hl 0 rfl) ?_
    refine lv_ifnullN (tgt := 17) hx hb dX6_second_7 (by decide) ?_
    refine lv_ldc (v := (-100000 : Int32)) hx hb hown kc34 dX6_second_17 ?_
    obtain rfl := Option.some.inj hf
    exact hret _ _ _ ls hh dX6_second_19 rfl
  · have hf := pq_brf hf h3
    rw [if_neg h3]
    refine W.eq (g2 := F0 m 5 ls [.ref ln]) rfl ?_
    refine lv_astore_n (lv' := [(2, .ref ln), (0, .ref th), (1, .int a1)]) hx hb dX6_second_5 rfl hl (by decide) rfl (fun ls hl => ?_)
    refine lv_aload_n hx hb dX6_second_6 rfl (lv_at hl 0 rfl) ?_
    refine lv_ifnull hx hb dX6_second_7 ?_
    refine lv_aload_n hx hb dX6_second_10 rfl (lv_at hl 0 rfl) ?_
    obtain ⟨r4, hu5, hf⟩ := pq_clx hf
    refine pq_cvI (n := 0) (As := []) C hh (qX4_isWide l D cI cL ln ln_adpcmSpeaker ln_adpcmHearer ln_wideSpeaker ln_wideHearer c_ln_kind r4 hu5) (gvX4_isWide hs (pq_m7 _ (List.mem_of_getElem? (i := 16) rfl))) rfl (by decide +kernel) ⟨Nat.le_of_ble_eq_true rfl, Nat.le_of_ble_eq_true rfl⟩ 2 3 rfl rfl rfl hl.1 rfl rfl (Nat.le_of_ble_eq_true rfl) dX6_second_11 ⟨Nat.zero_le _, Nat.zero_le _⟩ [2] [0, 1, 3] [0, 1, 3, 2] rfl rfl (by decide) (by decide) (by decide) rfl (fun H locs (hh : pq_H D A s (wX6_second_i cI cL La th th_tape th_result th_lines ln ln_adpcmSpeaker ln_adpcmHearer ln_wideSpeaker ln_wideHearer ln_wideHearer_low ln_wideHearer_high ln_wideHearer_x c_ln_kind c_ln_wideHearer_secondHeard) H locs) => ?_)
    refine lv_if_ne (tgt := 20) hx hb dX6_second_14 (by decide) (fun h6 => ?_) (fun h6 => ?_)
    · have hf := pq_brf hf h6
      refine lv_aload_n hx hb dX6_second_20 rfl (lv_at hl 0 rfl) ?_
      obtain ⟨r7, hu8, hf⟩ := pq_clx hf
      refine pq_cvI (n := 0) (As := []) C hh (qX4_secondHeard l D cI cL ln ln_adpcmSpeaker ln_adpcmHearer ln_wideSpeaker ln_wideHearer ln_wideHearer_low ln_wideHearer_high ln_wideHearer_x c_ln_kind c_ln_wideHearer_secondHeard r7 hu8) (gvX4_secondHeard hs (pq_m24 _ (List.mem_of_getElem? (i := 4) rfl))) rfl (by decide +kernel) ⟨Nat.le_of_ble_eq_true rfl, Nat.le_of_ble_eq_true rfl⟩ 2 3 rfl rfl rfl hl.1 rfl rfl (Nat.le_of_ble_eq_true rfl) dX6_second_21 ⟨Nat.zero_le _, Nat.zero_le _⟩ [2, 3] [0, 1] [0, 1, 2, 3] rfl rfl (by decide) (by decide) (by decide) rfl (fun H locs (hh : pq_H D A s (wX6_second_i cI cL La th th_tape th_result th_lines ln ln_adpcmSpeaker ln_adpcmHearer ln_wideSpeaker ln_wideHearer ln_wideHearer_low ln_wideHearer_high ln_wideHearer_x c_ln_kind c_ln_wideHearer_secondHeard) H locs) => ?_)
      obtain rfl := Option.some.inj hf
      exact hret _ _ _ ls hh dX6_second_24 rfl
    · have hf := pq_brt hf h6
      refine lv_ldc (v := (-100000 : Int32)) hx hb hown kc34 dX6_second_17 ?_
      obtain rfl := Option.some.inj hf
      exact hret _ _ _ ls hh dX6_second_19 rfl
set_option maxHeartbeats 4000000 in
set_option maxRecDepth 100000 in
theorem qX6_inner_o (l : Launch) (D : va_G) (cI cL : ClassId) (th : Nat) (th_lines : Nat) (th_tape : Nat) (th_result : Nat) (a1 : Int32) (a2 : Int32) (a3 : Int32) (res : Int32) (hf : fX6_inner_o a1 a2 a3 = some res) : pq_CI l yX6_inner qsX6_inner 3 64 D cI cL [.ref th, .int a1, .int a2, .int a3] (wX6_inner_o cI th th_lines th_tape th_result) (wX6_inner_o cI th th_lines th_tape th_result) res := by
  refine pq_mkI (cc := cX6_inner) (maxL := 5) (RT := .int) (by decide) rfl (Nat.le_of_ble_eq_true rfl) ?_
  intro p e s m args below meth c Q A C hh hret ls hl
  have hx := C.1
  have hb := C.2.1
  have hml := C.2.2.1
  have hown : s.vm.findClass RX6 = some m.cls := C.2.2.2.1
  have hs : ∀ w ∈ wsL_law, w ∈ qsX6_inner := fun _ h => List.mem_cons_of_mem _ h
  have htw : ∀ w ∈ wsL_law, w.before args s = true := fun w h => C.2.2.2.2.1 w (hs w h)
  have hl : lv_has ls 5 [(0, .ref th), (1, .int a1), (2, .int a2), (3, .int a3)] := hl
  have kc34 := htw (.constant RX6 34 (-100000)) (pq_m7 _ (List.mem_of_getElem? (i := 3) rfl))
  rw [fX6_inner_o] at hf
  refine lv_aload_n hx hb dX6_inner_0 rfl (lv_at hl 0 rfl) ?_
  refine lv_iload_n hx hb dX6_inner_1 rfl (lv_at hl 1 rfl) ?_
  obtain ⟨u2, hu1, hf⟩ := pq_clx hf
  refine pq_cvQ (n := 1) (As := [.int a1]) C hh (qX6_openLine_o l D cI cL th th_lines th_tape th_result a1 u2 hu1) (gvX6_openLine hs (pq_m7 _ (List.mem_of_getElem? (i := 4) rfl))) rfl (by decide +kernel) ⟨Nat.le_of_ble_eq_true rfl, Nat.le_of_ble_eq_true rfl⟩ 0 5 rfl rfl rfl hl.1 rfl rfl (Nat.le_of_ble_eq_true rfl) dX6_inner_2 ⟨Nat.zero_le _, Nat.zero_le _⟩ [0] [] [0] rfl rfl (by decide) (by decide) (by decide) rfl (fun H locs (hh : pq_H D A s (wX6_inner_o cI th th_lines th_tape th_result) H locs) => ?_)
  refine lv_astoreN (lv' := [(4, .null), (0, .ref th), (1, .int a1), (2, .int a2), (3, .int a3)]) hx hb dX6_inner_5 hl (by decide) rfl (fun ls hl => ?_)
  refine lv_aloadN hx hb dX6_inner_7 (lv_at hl 0 rfl) ?_
  refine lv_ifnullN (tgt := 21) hx hb dX6_inner_9 (by decide) ?_
  refine lv_ldc (v := (-100000 : Int32)) hx hb hown kc34 dX6_inner_21 ?_
  obtain rfl := Option.some.inj hf
  exact hret _ _ _ ls hh dX6_inner_23 rfl
set_option maxHeartbeats 4000000 in
set_option maxRecDepth 100000 in
theorem qX6_inner_i (l : Launch) (D : va_G) (cI cL : ClassId) (La : Nat → Nat) (th : Nat) (th_tape : Nat) (th_result : Nat) (th_lines : Nat) (ln : Nat) (ln_adpcmSpeaker : Nat) (ln_adpcmSpeaker_numbers : Nat) (ln_adpcmHearer : Nat) (ln_adpcmHearer_numbers : Nat) (ln_wideSpeaker : Nat) (ln_wideSpeaker_low : Nat) (ln_wideSpeaker_low_numbers : Nat) (ln_wideSpeaker_high : Nat) (ln_wideSpeaker_high_numbers : Nat) (ln_wideSpeaker_x : Nat) (ln_wideHearer : Nat) (ln_wideHearer_low : Nat) (ln_wideHearer_low_numbers : Nat) (ln_wideHearer_high : Nat) (ln_wideHearer_high_numbers : Nat) (ln_wideHearer_x : Nat) (c_ln_kind : Int32) (c_ln_adpcmSpeaker_bits : Int32) (c_ln_adpcmSpeaker_se : Int32) (c_ln_adpcmSpeaker_sz : Int32) (c_ln_adpcmSpeaker_step : Int32) (f_ln_adpcmSpeaker_numbers : Nat → Int32) (c_ln_adpcmHearer_bits : Int32) (c_ln_adpcmHearer_se : Int32) (c_ln_adpcmHearer_sz : Int32) (c_ln_adpcmHearer_step : Int32) (f_ln_adpcmHearer_numbers : Nat → Int32) (c_ln_wideSpeaker_secondHeard : Int32) (f_ln_wideSpeaker_low_numbers : Nat → Int32) (f_ln_wideSpeaker_high_numbers : Nat → Int32) (f_ln_wideSpeaker_x : Nat → Int32) (c_ln_wideHearer_secondHeard : Int32) (f_ln_wideHearer_low_numbers : Nat → Int32) (f_ln_wideHearer_high_numbers : Nat → Int32) (f_ln_wideHearer_x : Nat → Int32) (a1 : Int32) (a2 : Int32) (a3 : Int32) (hLa1 : La a1.toNatClampNeg = ln) (res : Int32) (hf : fX6_inner_i a1 a2 a3 c_ln_kind f_ln_adpcmSpeaker_numbers f_ln_adpcmHearer_numbers f_ln_wideSpeaker_low_numbers f_ln_wideSpeaker_high_numbers f_ln_wideSpeaker_x f_ln_wideHearer_low_numbers f_ln_wideHearer_high_numbers f_ln_wideHearer_x = some res) : pq_CI l yX6_inner qsX6_inner 3 64 D cI cL [.ref th, .int a1, .int a2, .int a3] (wX6_inner_i cI cL La th th_tape th_result th_lines ln ln_adpcmSpeaker ln_adpcmSpeaker_numbers ln_adpcmHearer ln_adpcmHearer_numbers ln_wideSpeaker ln_wideSpeaker_low ln_wideSpeaker_low_numbers ln_wideSpeaker_high ln_wideSpeaker_high_numbers ln_wideSpeaker_x ln_wideHearer ln_wideHearer_low ln_wideHearer_low_numbers ln_wideHearer_high ln_wideHearer_high_numbers ln_wideHearer_x c_ln_kind c_ln_adpcmSpeaker_bits c_ln_adpcmSpeaker_se c_ln_adpcmSpeaker_sz c_ln_adpcmSpeaker_step f_ln_adpcmSpeaker_numbers c_ln_adpcmHearer_bits c_ln_adpcmHearer_se c_ln_adpcmHearer_sz c_ln_adpcmHearer_step f_ln_adpcmHearer_numbers c_ln_wideSpeaker_secondHeard f_ln_wideSpeaker_low_numbers f_ln_wideSpeaker_high_numbers f_ln_wideSpeaker_x c_ln_wideHearer_secondHeard f_ln_wideHearer_low_numbers f_ln_wideHearer_high_numbers f_ln_wideHearer_x) (wX6_inner_i cI cL La th th_tape th_result th_lines ln ln_adpcmSpeaker ln_adpcmSpeaker_numbers ln_adpcmHearer ln_adpcmHearer_numbers ln_wideSpeaker ln_wideSpeaker_low ln_wideSpeaker_low_numbers ln_wideSpeaker_high ln_wideSpeaker_high_numbers ln_wideSpeaker_x ln_wideHearer ln_wideHearer_low ln_wideHearer_low_numbers ln_wideHearer_high ln_wideHearer_high_numbers ln_wideHearer_x c_ln_kind c_ln_adpcmSpeaker_bits c_ln_adpcmSpeaker_se c_ln_adpcmSpeaker_sz c_ln_adpcmSpeaker_step f_ln_adpcmSpeaker_numbers c_ln_adpcmHearer_bits c_ln_adpcmHearer_se c_ln_adpcmHearer_sz c_ln_adpcmHearer_step f_ln_adpcmHearer_numbers c_ln_wideSpeaker_secondHeard f_ln_wideSpeaker_low_numbers f_ln_wideSpeaker_high_numbers f_ln_wideSpeaker_x c_ln_wideHearer_secondHeard f_ln_wideHearer_low_numbers f_ln_wideHearer_high_numbers f_ln_wideHearer_x) res := by
  refine pq_mkI (cc := cX6_inner) (maxL := 5) (RT := .int) (by decide) rfl (Nat.le_of_ble_eq_true rfl) ?_
  intro p e s m args below meth c Q A C hh hret ls hl
  have hx := C.1
  have hb := C.2.1
  have hml := C.2.2.1
  have hown : s.vm.findClass RX6 = some m.cls := C.2.2.2.1
  have hs : ∀ w ∈ wsL_law, w ∈ qsX6_inner := fun _ h => List.mem_cons_of_mem _ h
  have htw : ∀ w ∈ wsL_law, w.before args s = true := fun w h => C.2.2.2.2.1 w (hs w h)
  have hl : lv_has ls 5 [(0, .ref th), (1, .int a1), (2, .int a2), (3, .int a3)] := hl
  have kc34 := htw (.constant RX6 34 (-100000)) (pq_m7 _ (List.mem_of_getElem? (i := 3) rfl))
  have J35 : ∀ (x3 : Int32) (s1 : Int32) (H : Heap) (locs : List Loc), pq_H D A s (wX6_inner_i cI cL La th th_tape th_result th_lines ln ln_adpcmSpeaker ln_adpcmSpeaker_numbers ln_adpcmHearer ln_adpcmHearer_numbers ln_wideSpeaker ln_wideSpeaker_low ln_wideSpeaker_low_numbers ln_wideSpeaker_high ln_wideSpeaker_high_numbers ln_wideSpeaker_x ln_wideHearer ln_wideHearer_low ln_wideHearer_low_numbers ln_wideHearer_high ln_wideHearer_high_numbers ln_wideHearer_x c_ln_kind c_ln_adpcmSpeaker_bits c_ln_adpcmSpeaker_se c_ln_adpcmSpeaker_sz c_ln_adpcmSpeaker_step f_ln_adpcmSpeaker_numbers c_ln_adpcmHearer_bits c_ln_adpcmHearer_se c_ln_adpcmHearer_sz c_ln_adpcmHearer_step f_ln_adpcmHearer_numbers c_ln_wideSpeaker_secondHeard f_ln_wideSpeaker_low_numbers f_ln_wideSpeaker_high_numbers f_ln_wideSpeaker_x c_ln_wideHearer_secondHeard f_ln_wideHearer_low_numbers f_ln_wideHearer_high_numbers f_ln_wideHearer_x) H locs → ∀ ls : Array Slot, lv_has ls 5 [(3, .int x3)] → fX6_inner_i_b35  c_ln_kind f_ln_adpcmSpeaker_numbers f_ln_adpcmHearer_numbers f_ln_wideSpeaker_low_numbers f_ln_wideSpeaker_high_numbers f_ln_wideSpeaker_x f_ln_wideHearer_low_numbers f_ln_wideHearer_high_numbers f_ln_wideHearer_x x3 s1 = some res → W p l e (pq_rm 3 64) s m args below meth c H locs 0 0 Q (F0 m 35 ls [.int s1, .ref ln]) := by
    intro x3 s1 H locs hh ls hl hf
    rw [fX6_inner_i_b35] at hf
    refine lv_iload_n hx hb dX6_inner_35 rfl (lv_at hl 0 rfl) ?_
    obtain ⟨r7, hu8, hf⟩ := pq_clx hf
    refine pq_cvI (n := 2) (As := [.int s1, .int x3]) C hh (qX4_number l D cI cL ln ln_adpcmSpeaker ln_adpcmSpeaker_numbers ln_adpcmHearer ln_adpcmHearer_numbers ln_wideSpeaker ln_wideSpeaker_low ln_wideSpeaker_low_numbers ln_wideSpeaker_high ln_wideSpeaker_high_numbers ln_wideSpeaker_x ln_wideHearer ln_wideHearer_low ln_wideHearer_low_numbers ln_wideHearer_high ln_wideHearer_high_numbers ln_wideHearer_x c_ln_kind c_ln_adpcmSpeaker_bits c_ln_adpcmSpeaker_se c_ln_adpcmSpeaker_sz c_ln_adpcmSpeaker_step f_ln_adpcmSpeaker_numbers c_ln_adpcmHearer_bits c_ln_adpcmHearer_se c_ln_adpcmHearer_sz c_ln_adpcmHearer_step f_ln_adpcmHearer_numbers c_ln_wideSpeaker_secondHeard f_ln_wideSpeaker_low_numbers f_ln_wideSpeaker_high_numbers f_ln_wideSpeaker_x c_ln_wideHearer_secondHeard f_ln_wideHearer_low_numbers f_ln_wideHearer_high_numbers f_ln_wideHearer_x s1 x3 r7 hu8) (gvX4_number hs (pq_m24 _ (List.mem_of_getElem? (i := 16) rfl))) rfl (by decide +kernel) ⟨Nat.le_of_ble_eq_true rfl, Nat.le_of_ble_eq_true rfl⟩ 2 3 rfl rfl rfl hl.1 rfl rfl (Nat.le_of_ble_eq_true rfl) dX6_inner_36 ⟨Nat.zero_le _, Nat.zero_le _⟩ [2, 3, 4, 5, 6, 7, 8, 9, 10, 11, 12, 13, 14, 15, 16, 17, 18] [0, 1] [0, 1, 2, 3, 4, 5, 6, 7, 8, 9, 10, 11, 12, 13, 14, 15, 16, 17, 18] rfl rfl (by decide) (by decide) (by decide) rfl (fun H locs (hh : pq_H D A s (wX6_inner_i cI cL La th th_tape th_result th_lines ln ln_adpcmSpeaker ln_adpcmSpeaker_numbers ln_adpcmHearer ln_adpcmHearer_numbers ln_wideSpeaker ln_wideSpeaker_low ln_wideSpeaker_low_numbers ln_wideSpeaker_high ln_wideSpeaker_high_numbers ln_wideSpeaker_x ln_wideHearer ln_wideHearer_low ln_wideHearer_low_numbers ln_wideHearer_high ln_wideHearer_high_numbers ln_wideHearer_x c_ln_kind c_ln_adpcmSpeaker_bits c_ln_adpcmSpeaker_se c_ln_adpcmSpeaker_sz c_ln_adpcmSpeaker_step f_ln_adpcmSpeaker_numbers c_ln_adpcmHearer_bits c_ln_adpcmHearer_se c_ln_adpcmHearer_sz c_ln_adpcmHearer_step f_ln_adpcmHearer_numbers c_ln_wideSpeaker_secondHeard f_ln_wideSpeaker_low_numbers f_ln_wideSpeaker_high_numbers f_ln_wideSpeaker_x c_ln_wideHearer_secondHeard f_ln_wideHearer_low_numbers f_ln_wideHearer_high_numbers f_ln_wideHearer_x) H locs) => ?_)
    obtain rfl := Option.some.inj hf
    exact hret _ _ _ ls hh dX6_inner_39 rfl
  have J24 : ∀ (x2 : Int32) (x3 : Int32) (H : Heap) (locs : List Loc), pq_H D A s (wX6_inner_i cI cL La th th_tape th_result th_lines ln ln_adpcmSpeaker ln_adpcmSpeaker_numbers ln_adpcmHearer ln_adpcmHearer_numbers ln_wideSpeaker ln_wideSpeaker_low ln_wideSpeaker_low_numbers ln_wideSpeaker_high ln_wideSpeaker_high_numbers ln_wideSpeaker_x ln_wideHearer ln_wideHearer_low ln_wideHearer_low_numbers ln_wideHearer_high ln_wideHearer_high_numbers ln_wideHearer_x c_ln_kind c_ln_adpcmSpeaker_bits c_ln_adpcmSpeaker_se c_ln_adpcmSpeaker_sz c_ln_adpcmSpeaker_step f_ln_adpcmSpeaker_numbers c_ln_adpcmHearer_bits c_ln_adpcmHearer_se c_ln_adpcmHearer_sz c_ln_adpcmHearer_step f_ln_adpcmHearer_numbers c_ln_wideSpeaker_secondHeard f_ln_wideSpeaker_low_numbers f_ln_wideSpeaker_high_numbers f_ln_wideSpeaker_x c_ln_wideHearer_secondHeard f_ln_wideHearer_low_numbers f_ln_wideHearer_high_numbers f_ln_wideHearer_x) H locs → ∀ ls : Array Slot, lv_has ls 5 [(2, .int x2), (3, .int x3), (4, .ref ln)] → fX6_inner_i_b24  c_ln_kind f_ln_adpcmSpeaker_numbers f_ln_adpcmHearer_numbers f_ln_wideSpeaker_low_numbers f_ln_wideSpeaker_high_numbers f_ln_wideSpeaker_x f_ln_wideHearer_low_numbers f_ln_wideHearer_high_numbers f_ln_wideHearer_x x2 x3 = some res → W p l e (pq_rm 3 64) s m args below meth c H locs 0 0 Q (F0 m 24 ls []) := by
    intro x2 x3 H locs hh ls hl hf
    rw [fX6_inner_i_b24] at hf
    refine lv_aload hx hb dX6_inner_24 (lv_at hl 2 rfl) ?_
    refine lv_iload_n hx hb dX6_inner_26 rfl (lv_at hl 0 rfl) ?_
    refine lv_if_ne (tgt := 34) hx hb dX6_inner_27 (by decide) (fun h6 => ?_) (fun h6 => ?_)
    · have hf := pq_brf hf h6
      refine lv_iconst (v := (0 : Int32)) hx hb dX6_inner_34 (by decide) ?_
      exact J35 x3 (0 : Int32) _ _ hh ls (lv_sub hl [1] rfl) hf
    · have hf := pq_brt hf h6
      refine lv_iconst (v := (1 : Int32)) hx hb dX6_inner_30 (by decide) ?_
      refine lv_goto (tgt := 35) hx hb dX6_inner_31 (by decide) ?_
      exact J35 x3 (1 : Int32) _ _ hh ls (lv_sub hl [1] rfl) hf
  rw [fX6_inner_i] at hf
  refine lv_aload_n hx hb dX6_inner_0 rfl (lv_at hl 0 rfl) ?_
  refine lv_iload_n hx hb dX6_inner_1 rfl (lv_at hl 1 rfl) ?_
  obtain ⟨r1, hu2, hf⟩ := pq_clx hf
  refine pq_cvQ (n := 1) (As := [.int a1]) C hh (qX6_openLine_i l D cI cL La th th_tape th_result th_lines ln ln_adpcmSpeaker ln_adpcmHearer ln_wideSpeaker ln_wideHearer c_ln_kind a1 hLa1 r1 hu2) (gvX6_openLine hs (pq_m7 _ (List.mem_of_getElem? (i := 4) rfl))) rfl (by decide +kernel) ⟨Nat.le_of_ble_eq_true rfl, Nat.le_of_ble_eq_true rfl⟩ 0 5 rfl rfl rfl hl.1 rfl rfl (Nat.le_of_ble_eq_true rfl) dX6_inner_2 ⟨Nat.zero_le _, Nat.zero_le _⟩ [0, 1, 2] [3, 4, 5, 6, 7, 8, 9, 10, 11, 12, 13, 14, 15, 16, 17, 18] [16, 17, 18, 0, 1, 2, 3, 4, 5, 6, 7, 8, 9, 10, 11, 12, 13, 14, 15] rfl rfl (by decide) (by decide) (by decide) rfl (fun H locs (hh : pq_H D A s (wX6_inner_i cI cL La th th_tape th_result th_lines ln ln_adpcmSpeaker ln_adpcmSpeaker_numbers ln_adpcmHearer ln_adpcmHearer_numbers ln_wideSpeaker ln_wideSpeaker_low ln_wideSpeaker_low_numbers ln_wideSpeaker_high ln_wideSpeaker_high_numbers ln_wideSpeaker_x ln_wideHearer ln_wideHearer_low ln_wideHearer_low_numbers ln_wideHearer_high ln_wideHearer_high_numbers ln_wideHearer_x c_ln_kind c_ln_adpcmSpeaker_bits c_ln_adpcmSpeaker_se c_ln_adpcmSpeaker_sz c_ln_adpcmSpeaker_step f_ln_adpcmSpeaker_numbers c_ln_adpcmHearer_bits c_ln_adpcmHearer_se c_ln_adpcmHearer_sz c_ln_adpcmHearer_step f_ln_adpcmHearer_numbers c_ln_wideSpeaker_secondHeard f_ln_wideSpeaker_low_numbers f_ln_wideSpeaker_high_numbers f_ln_wideSpeaker_x c_ln_wideHearer_secondHeard f_ln_wideHearer_low_numbers f_ln_wideHearer_high_numbers f_ln_wideHearer_x) H locs) => ?_)
  by_cases h3 : r1 = 0
  · have hf := pq_brt hf h3
    rw [if_pos h3]
    refine W.eq (g2 := F0 m 5 ls [.null]) rfl ?_
    refine lv_astoreN (lv' := [(4, .null), (0, .ref th), (1, .int a1), (2, .int a2), (3, .int a3)]) hx hb dX6_inner_5 hl (by decide) rfl (fun ls hl => ?_)
    refine lv_aloadN hx hb dX6_inner_7 (lv_at hl 0 rfl) ?_
    refine lv_ifnullN (tgt := 21) hx hb dX6_inner_9 (by decide) ?_
    refine lv_ldc (v := (-100000 : Int32)) hx hb hown kc34 dX6_inner_21 ?_
    obtain rfl := Option.some.inj hf
    exact hret _ _ _ ls hh dX6_inner_23 rfl
  · have hf := pq_brf hf h3
    rw [if_neg h3]
    refine W.eq (g2 := F0 m 5 ls [.ref ln]) rfl ?_
    refine lv_astore (lv' := [(4, .ref ln), (0, .ref th), (1, .int a1), (2, .int a2), (3, .int a3)]) hx hb dX6_inner_5 hl (by decide) rfl (fun ls hl => ?_)
    refine lv_aload hx hb dX6_inner_7 (lv_at hl 0 rfl) ?_
    refine lv_ifnull hx hb dX6_inner_9 ?_
    refine lv_iload_n hx hb dX6_inner_12 rfl (lv_at hl 3 rfl) ?_
    refine lv_if_eq (tgt := 24) hx hb dX6_inner_13 (by decide) (fun h4 => ?_) (fun h4 => ?_)
    · have hf := pq_brt hf h4
      exact J24 a2 a3 _ _ hh ls (lv_sub hl [3, 4, 0] rfl) hf
    · have hf := pq_brf hf h4
      refine lv_iload_n hx hb dX6_inner_16 rfl (lv_at hl 3 rfl) ?_
      refine lv_iconst (v := (1 : Int32)) hx hb dX6_inner_17 (by decide) ?_
      refine lv_icmp_eq (tgt := 24) hx hb dX6_inner_18 (by decide) (fun h5 => ?_) (fun h5 => ?_)
      · have hf := pq_brt hf h5
        exact J24 a2 a3 _ _ hh ls (lv_sub hl [3, 4, 0] rfl) hf
      · have hf := pq_brf hf h5
        refine lv_ldc (v := (-100000 : Int32)) hx hb hown kc34 dX6_inner_21 ?_
        obtain rfl := Option.some.inj hf
        exact hret _ _ _ ls hh dX6_inner_23 rfl
set_option maxHeartbeats 4000000 in
set_option maxRecDepth 100000 in
theorem qX6_feed (l : Launch) (D : va_G) (cI cL : ClassId) (th : Nat) (th_lines : Nat) (th_result : Nat) (th_tape : Nat) (th_tape_row : Nat) (c_tape_length : Int32) (f_tape_row : Nat → Int32) (a1 : Int32) (a2 : Int32) (a3 : Int32) (a4 : Int32) (a5 : Int32) (res : Int32 × Int32 × (Nat → Int32)) (hf : fX6_feed a1 a2 a3 a4 a5 c_tape_length f_tape_row = some res) : pq_CI l yX6_feed qsX6_feed 2 42 D cI cL [.ref th, .int a1, .int a2, .int a3, .int a4, .int a5] (wX6_feed cI th th_lines th_result th_tape th_tape_row c_tape_length f_tape_row) (wX6_feed cI th th_lines th_result th_tape th_tape_row res.2.1 res.2.2) res.1 := by
  refine pq_mkI (cc := cX6_feed) (maxL := 6) (RT := .int) (by decide) rfl (Nat.le_of_ble_eq_true rfl) ?_
  intro p e s m args below meth c Q A C hh hret ls hl
  have hx := C.1
  have hb := C.2.1
  have hml := C.2.2.1
  have hown : s.vm.findClass RX6 = some m.cls := C.2.2.2.1
  have hs : ∀ w ∈ wsL_law, w ∈ qsX6_feed := fun _ h => List.mem_cons_of_mem _ h
  have htw : ∀ w ∈ wsL_law, w.before args s = true := fun w h => C.2.2.2.2.1 w (hs w h)
  have hl : lv_has ls 6 [(0, .ref th), (1, .int a1), (2, .int a2), (3, .int a3), (4, .int a4), (5, .int a5)] := hl
  have i2 : ∀ w ∈ wsX20, w ∈ qsX6_feed := fun w h => hs w (pq_i2 w h)
  have i6 : ∀ w ∈ wsX60, w ∈ qsX6_feed := fun w h => hs w (pq_i6 w h)
  have kc34 := htw (.constant RX6 34 (-100000)) (pq_m7 _ (List.mem_of_getElem? (i := 3) rfl))
  have kf19 := htw (.fieldLink RX6 19 "VoiceDesk" "tape" "LVoiceDesk$Bytes;") (pq_m1 _ (List.mem_of_getElem? (i := 19) rfl))
  rw [fX6_feed] at hf
  refine lv_aload_n hx hb dX6_feed_0 rfl (lv_at hl 0 rfl) ?_
  refine pq_get C hh i6 0 5 rfl rfl 1 (by decide) kf19 rfl rfl dX6_feed_1 ?_
  refine pq_getN (host := "VoiceDesk") C hh i2 1 2 rfl rfl 1 (by decide) (List.mem_of_getElem? (i := 2) rfl) rfl rfl dX6_feed_4 ?_
  refine lv_sipush (v := (980 : Int32)) hx hb dX6_feed_7 (by decide) ?_
  refine lv_icmp_le (tgt := 16) hx hb dX6_feed_10 (by decide) (fun h1 => ?_) (fun h1 => ?_)
  · have hf := pq_brt hf h1
    refine lv_aload_n hx hb dX6_feed_16 rfl (lv_at hl 0 rfl) ?_
    refine pq_get C hh i6 0 5 rfl rfl 1 (by decide) kf19 rfl rfl dX6_feed_17 ?_
    refine lv_iload_n hx hb dX6_feed_20 rfl (lv_at hl 1 rfl) ?_
    obtain ⟨⟨c2, f3⟩, hu4, hf⟩ := pq_clx hf
    have hf := pq_nmx hf c2 rfl
    have hf := pq_nmx hf f3 rfl
    refine pq_cvV (n := 1) (As := [.int a1]) C hh (qX2_addInt l D cI cL th_tape th_tape_row c_tape_length f_tape_row a1 (c2, f3) hu4) (gvX2_addInt hs (pq_m25 _ (List.mem_of_getElem? (i := 19) rfl))) rfl (by decide +kernel) ⟨Nat.le_of_ble_eq_true rfl, Nat.le_of_ble_eq_true rfl⟩ 1 2 rfl rfl rfl hl.1 rfl rfl (Nat.le_of_ble_eq_true rfl) dX6_feed_21 ⟨Nat.zero_le _, Nat.zero_le _⟩ [1, 2] [0] [0, 1, 2] rfl rfl (by decide) (by decide) (by decide) rfl (fun H locs (hh : pq_H D A s (wX6_feed cI th th_lines th_result th_tape th_tape_row c2 f3) H locs) => ?_)
    refine lv_aload_n hx hb dX6_feed_24 rfl (lv_at hl 0 rfl) ?_
    refine pq_get C hh i6 0 5 rfl rfl 1 (by decide) kf19 rfl rfl dX6_feed_25 ?_
    refine lv_iload_n hx hb dX6_feed_28 rfl (lv_at hl 2 rfl) ?_
    obtain ⟨⟨c6, f7⟩, hu8, hf⟩ := pq_clx hf
    have hf := pq_nmx hf c6 rfl
    have hf := pq_nmx hf f7 rfl
    refine pq_cvV (n := 1) (As := [.int a2]) C hh (qX2_addInt l D cI cL th_tape th_tape_row c2 f3 a2 (c6, f7) hu8) (gvX2_addInt hs (pq_m25 _ (List.mem_of_getElem? (i := 19) rfl))) rfl (by decide +kernel) ⟨Nat.le_of_ble_eq_true rfl, Nat.le_of_ble_eq_true rfl⟩ 1 2 rfl rfl rfl hl.1 rfl rfl (Nat.le_of_ble_eq_true rfl) dX6_feed_29 ⟨Nat.zero_le _, Nat.zero_le _⟩ [1, 2] [0] [0, 1, 2] rfl rfl (by decide) (by decide) (by decide) rfl (fun H locs (hh : pq_H D A s (wX6_feed cI th th_lines th_result th_tape th_tape_row c6 f7) H locs) => ?_)
    refine lv_aload_n hx hb dX6_feed_32 rfl (lv_at hl 0 rfl) ?_
    refine pq_get C hh i6 0 5 rfl rfl 1 (by decide) kf19 rfl rfl dX6_feed_33 ?_
    refine lv_iload_n hx hb dX6_feed_36 rfl (lv_at hl 3 rfl) ?_
    obtain ⟨⟨c10, f11⟩, hu12, hf⟩ := pq_clx hf
    have hf := pq_nmx hf c10 rfl
    have hf := pq_nmx hf f11 rfl
    refine pq_cvV (n := 1) (As := [.int a3]) C hh (qX2_addInt l D cI cL th_tape th_tape_row c6 f7 a3 (c10, f11) hu12) (gvX2_addInt hs (pq_m25 _ (List.mem_of_getElem? (i := 19) rfl))) rfl (by decide +kernel) ⟨Nat.le_of_ble_eq_true rfl, Nat.le_of_ble_eq_true rfl⟩ 1 2 rfl rfl rfl hl.1 rfl rfl (Nat.le_of_ble_eq_true rfl) dX6_feed_37 ⟨Nat.zero_le _, Nat.zero_le _⟩ [1, 2] [0] [0, 1, 2] rfl rfl (by decide) (by decide) (by decide) rfl (fun H locs (hh : pq_H D A s (wX6_feed cI th th_lines th_result th_tape th_tape_row c10 f11) H locs) => ?_)
    refine lv_aload_n hx hb dX6_feed_40 rfl (lv_at hl 0 rfl) ?_
    refine pq_get C hh i6 0 5 rfl rfl 1 (by decide) kf19 rfl rfl dX6_feed_41 ?_
    refine lv_iload hx hb dX6_feed_44 (lv_at hl 4 rfl) ?_
    obtain ⟨⟨c14, f15⟩, hu16, hf⟩ := pq_clx hf
    have hf := pq_nmx hf c14 rfl
    have hf := pq_nmx hf f15 rfl
    refine pq_cvV (n := 1) (As := [.int a4]) C hh (qX2_addInt l D cI cL th_tape th_tape_row c10 f11 a4 (c14, f15) hu16) (gvX2_addInt hs (pq_m25 _ (List.mem_of_getElem? (i := 19) rfl))) rfl (by decide +kernel) ⟨Nat.le_of_ble_eq_true rfl, Nat.le_of_ble_eq_true rfl⟩ 1 2 rfl rfl rfl hl.1 rfl rfl (Nat.le_of_ble_eq_true rfl) dX6_feed_46 ⟨Nat.zero_le _, Nat.zero_le _⟩ [1, 2] [0] [0, 1, 2] rfl rfl (by decide) (by decide) (by decide) rfl (fun H locs (hh : pq_H D A s (wX6_feed cI th th_lines th_result th_tape th_tape_row c14 f15) H locs) => ?_)
    refine lv_aload_n hx hb dX6_feed_49 rfl (lv_at hl 0 rfl) ?_
    refine pq_get C hh i6 0 5 rfl rfl 1 (by decide) kf19 rfl rfl dX6_feed_50 ?_
    refine lv_iload hx hb dX6_feed_53 (lv_at hl 5 rfl) ?_
    obtain ⟨⟨c18, f19⟩, hu20, hf⟩ := pq_clx hf
    have hf := pq_nmx hf c18 rfl
    have hf := pq_nmx hf f19 rfl
    refine pq_cvV (n := 1) (As := [.int a5]) C hh (qX2_addInt l D cI cL th_tape th_tape_row c14 f15 a5 (c18, f19) hu20) (gvX2_addInt hs (pq_m25 _ (List.mem_of_getElem? (i := 19) rfl))) rfl (by decide +kernel) ⟨Nat.le_of_ble_eq_true rfl, Nat.le_of_ble_eq_true rfl⟩ 1 2 rfl rfl rfl hl.1 rfl rfl (Nat.le_of_ble_eq_true rfl) dX6_feed_55 ⟨Nat.zero_le _, Nat.zero_le _⟩ [1, 2] [0] [0, 1, 2] rfl rfl (by decide) (by decide) (by decide) rfl (fun H locs (hh : pq_H D A s (wX6_feed cI th th_lines th_result th_tape th_tape_row c18 f19) H locs) => ?_)
    refine lv_aload_n hx hb dX6_feed_58 rfl (lv_at hl 0 rfl) ?_
    refine pq_get C hh i6 0 5 rfl rfl 1 (by decide) kf19 rfl rfl dX6_feed_59 ?_
    refine pq_getN (host := "VoiceDesk") C hh i2 1 2 rfl rfl 1 (by decide) (List.mem_of_getElem? (i := 2) rfl) rfl rfl dX6_feed_62 ?_
    obtain rfl := Option.some.inj hf
    exact hret _ _ _ ls hh dX6_feed_65 rfl
  · have hf := pq_brf hf h1
    refine lv_ldc (v := (-100000 : Int32)) hx hb hown kc34 dX6_feed_13 ?_
    obtain rfl := Option.some.inj hf
    exact hret _ _ _ ls hh dX6_feed_15 rfl
set_option maxHeartbeats 4000000 in
set_option maxRecDepth 100000 in
theorem qX6_end (l : Launch) (D : va_G) (cI cL : ClassId) (th : Nat) (th_lines : Nat) (th_result : Nat) (th_tape : Nat) (th_tape_row : Nat) (c_tape_length : Int32) (a1 : Int32) (res : Int32 × Int32) (hf : fX6_end a1 c_tape_length = some res) : pq_CI l yX6_end qsX6_end 0 0 D cI cL [.ref th, .int a1] (wX6_end cI th th_lines th_result th_tape th_tape_row c_tape_length) (wX6_end cI th th_lines th_result th_tape th_tape_row res.2) res.1 := by
  refine pq_mkI (cc := cX6_end) (maxL := 2) (RT := .int) (by decide) rfl (Nat.le_of_ble_eq_true rfl) ?_
  intro p e s m args below meth c Q A C hh hret ls hl
  have hx := C.1
  have hb := C.2.1
  have hml := C.2.2.1
  have hown : s.vm.findClass RX6 = some m.cls := C.2.2.2.1
  have hs : ∀ w ∈ wsL_law, w ∈ qsX6_end := fun _ h => List.mem_cons_of_mem _ h
  have htw : ∀ w ∈ wsL_law, w.before args s = true := fun w h => C.2.2.2.2.1 w (hs w h)
  have hl : lv_has ls 2 [(0, .ref th), (1, .int a1)] := hl
  have i2 : ∀ w ∈ wsX20, w ∈ qsX6_end := fun w h => hs w (pq_i2 w h)
  have i6 : ∀ w ∈ wsX60, w ∈ qsX6_end := fun w h => hs w (pq_i6 w h)
  have kc34 := htw (.constant RX6 34 (-100000)) (pq_m7 _ (List.mem_of_getElem? (i := 3) rfl))
  have kf19 := htw (.fieldLink RX6 19 "VoiceDesk" "tape" "LVoiceDesk$Bytes;") (pq_m1 _ (List.mem_of_getElem? (i := 19) rfl))
  rw [fX6_end] at hf
  refine lv_iload_n hx hb dX6_end_0 rfl (lv_at hl 1 rfl) ?_
  refine lv_if_lt (tgt := 15) hx hb dX6_end_1 (by decide) (fun h1 => ?_) (fun h1 => ?_)
  · have hf := pq_brt hf h1
    refine lv_ldc (v := (-100000 : Int32)) hx hb hown kc34 dX6_end_15 ?_
    obtain rfl := Option.some.inj hf
    exact hret _ _ _ ls hh dX6_end_17 rfl
  · have hf := pq_brf hf h1
    refine lv_iload_n hx hb dX6_end_4 rfl (lv_at hl 1 rfl) ?_
    refine lv_aload_n hx hb dX6_end_5 rfl (lv_at hl 0 rfl) ?_
    refine pq_get C hh i6 0 5 rfl rfl 1 (by decide) kf19 rfl rfl dX6_end_6 ?_
    refine pq_getN (host := "VoiceDesk") C hh i2 1 2 rfl rfl 1 (by decide) (List.mem_of_getElem? (i := 2) rfl) rfl rfl dX6_end_9 ?_
    refine lv_icmp_le (tgt := 18) hx hb dX6_end_12 (by decide) (fun h2 => ?_) (fun h2 => ?_)
    · have hf := pq_brt hf h2
      refine lv_aload_n hx hb dX6_end_18 rfl (lv_at hl 0 rfl) ?_
      refine pq_get C hh i6 0 5 rfl rfl 1 (by decide) kf19 rfl rfl dX6_end_19 ?_
      refine lv_iload_n hx hb dX6_end_22 rfl (lv_at hl 1 rfl) ?_
      refine pq_putN (ty := .int) (v := .int a1) (host := "VoiceDesk") C hh i2 tyX2 tyX2_ok nmX2 1 2 rfl rfl 1 (by decide) (List.mem_of_getElem? (i := 2) rfl) rfl rfl (by decide +kernel) rfl rfl (Nat.le_of_ble_eq_true rfl) dX6_end_23 (fun H locs (hh : pq_H D A s (wX6_end cI th th_lines th_result th_tape th_tape_row a1) H locs) => ?_)
      refine lv_iload_n hx hb dX6_end_26 rfl (lv_at hl 1 rfl) ?_
      obtain rfl := Option.some.inj hf
      exact hret _ _ _ ls hh dX6_end_27 rfl
    · have hf := pq_brf hf h2
      refine lv_ldc (v := (-100000 : Int32)) hx hb hown kc34 dX6_end_15 ?_
      obtain rfl := Option.some.inj hf
      exact hret _ _ _ ls hh dX6_end_17 rfl
set_option maxHeartbeats 4000000 in
set_option maxRecDepth 100000 in
theorem qX6_take (l : Launch) (D : va_G) (cI cL : ClassId) (th : Nat) (th_lines : Nat) (th_tape : Nat) (th_tape_row : Nat) (th_result : Nat) (th_result_row : Nat) (c_tape_length : Int32) (f_tape_row : Nat → Int32) (c_result_length : Int32) (f_result_row : Nat → Int32) (res : Int32 × Int32 × (Nat → Int32)) (hf : fX6_take c_result_length f_result_row c_tape_length f_tape_row = some res) : pq_CI l yX6_take qsX6_take 1 22 D cI cL [.ref th] (wX6_take cI th th_lines th_tape th_tape_row th_result th_result_row c_tape_length f_tape_row c_result_length f_result_row) (wX6_take cI th th_lines th_tape th_tape_row th_result th_result_row res.2.1 res.2.2 c_result_length f_result_row) res.1 := by
  refine pq_mkI (cc := cX6_take) (maxL := 1) (RT := .int) (by decide) rfl (Nat.le_of_ble_eq_true rfl) ?_
  intro p e s m args below meth c Q A C hh hret ls hl
  have hx := C.1
  have hb := C.2.1
  have hml := C.2.2.1
  have hown : s.vm.findClass RX6 = some m.cls := C.2.2.2.1
  have hs : ∀ w ∈ wsL_law, w ∈ qsX6_take := fun _ h => List.mem_cons_of_mem _ h
  have htw : ∀ w ∈ wsL_law, w.before args s = true := fun w h => C.2.2.2.2.1 w (hs w h)
  have hl : lv_has ls 1 [(0, .ref th)] := hl
  have i2 : ∀ w ∈ wsX20, w ∈ qsX6_take := fun w h => hs w (pq_i2 w h)
  have i6 : ∀ w ∈ wsX60, w ∈ qsX6_take := fun w h => hs w (pq_i6 w h)
  have kf19 := htw (.fieldLink RX6 19 "VoiceDesk" "tape" "LVoiceDesk$Bytes;") (pq_m1 _ (List.mem_of_getElem? (i := 19) rfl))
  have kf23 := htw (.fieldLink RX6 23 "VoiceDesk" "result" "LVoiceDesk$Bytes;") (pq_m1 _ (List.mem_of_getElem? (i := 20) rfl))
  rw [fX6_take] at hf
  refine lv_aload_n hx hb dX6_take_0 rfl (lv_at hl 0 rfl) ?_
  refine pq_get C hh i6 0 5 rfl rfl 1 (by decide) kf19 rfl rfl dX6_take_1 ?_
  refine lv_aload_n hx hb dX6_take_4 rfl (lv_at hl 0 rfl) ?_
  refine pq_get C hh i6 0 5 rfl rfl 2 (by decide) kf23 rfl rfl dX6_take_5 ?_
  obtain ⟨⟨c1, f2⟩, hu3, hf⟩ := pq_clx hf
  have hf := pq_nmx hf c1 rfl
  have hf := pq_nmx hf f2 rfl
  refine pq_cvV (n := 1) (As := [.ref th_result]) C hh (qX2_copyFrom l D cI cL th_tape th_tape_row th_result th_result_row c_tape_length f_tape_row c_result_length f_result_row (c1, f2) hu3) (gvX2_copyFrom hs (pq_m27 _ (List.mem_of_getElem? (i := 0) rfl))) rfl (by decide +kernel) ⟨Nat.le_of_ble_eq_true rfl, Nat.le_of_ble_eq_true rfl⟩ 1 2 rfl rfl rfl hl.1 rfl rfl (Nat.le_of_ble_eq_true rfl) dX6_take_8 ⟨Nat.zero_le _, Nat.zero_le _⟩ [1, 2, 3, 4] [0] [0, 1, 2, 3, 4] rfl rfl (by decide) (by decide) (by decide) rfl (fun H locs (hh : pq_H D A s (wX6_take cI th th_lines th_tape th_tape_row th_result th_result_row c1 f2 c_result_length f_result_row) H locs) => ?_)
  refine lv_aload_n hx hb dX6_take_11 rfl (lv_at hl 0 rfl) ?_
  refine pq_get C hh i6 0 5 rfl rfl 1 (by decide) kf19 rfl rfl dX6_take_12 ?_
  refine pq_getN (host := "VoiceDesk") C hh i2 1 2 rfl rfl 1 (by decide) (List.mem_of_getElem? (i := 2) rfl) rfl rfl dX6_take_15 ?_
  obtain rfl := Option.some.inj hf
  exact hret _ _ _ ls hh dX6_take_18 rfl
set_option maxHeartbeats 4000000 in
set_option maxRecDepth 100000 in
theorem qX6_out (l : Launch) (D : va_G) (cI cL : ClassId) (th : Nat) (th_lines : Nat) (th_tape : Nat) (th_result : Nat) (th_result_row : Nat) (c_result_length : Int32) (f_result_row : Nat → Int32) (a1 : Int32) (res : Int32) (hf : fX6_out a1 c_result_length f_result_row = some res) : pq_CI l yX6_out qsX6_out 1 21 D cI cL [.ref th, .int a1] (wX6_out cI th th_lines th_tape th_result th_result_row c_result_length f_result_row) (wX6_out cI th th_lines th_tape th_result th_result_row c_result_length f_result_row) res := by
  refine pq_mkI (cc := cX6_out) (maxL := 2) (RT := .int) (by decide) rfl (Nat.le_of_ble_eq_true rfl) ?_
  intro p e s m args below meth c Q A C hh hret ls hl
  have hx := C.1
  have hb := C.2.1
  have hml := C.2.2.1
  have hown : s.vm.findClass RX6 = some m.cls := C.2.2.2.1
  have hs : ∀ w ∈ wsL_law, w ∈ qsX6_out := fun _ h => List.mem_cons_of_mem _ h
  have htw : ∀ w ∈ wsL_law, w.before args s = true := fun w h => C.2.2.2.2.1 w (hs w h)
  have hl : lv_has ls 2 [(0, .ref th), (1, .int a1)] := hl
  have i6 : ∀ w ∈ wsX60, w ∈ qsX6_out := fun w h => hs w (pq_i6 w h)
  have kf23 := htw (.fieldLink RX6 23 "VoiceDesk" "result" "LVoiceDesk$Bytes;") (pq_m1 _ (List.mem_of_getElem? (i := 20) rfl))
  rw [fX6_out] at hf
  refine lv_aload_n hx hb dX6_out_0 rfl (lv_at hl 0 rfl) ?_
  refine pq_get C hh i6 0 5 rfl rfl 2 (by decide) kf23 rfl rfl dX6_out_1 ?_
  refine lv_iload_n hx hb dX6_out_4 rfl (lv_at hl 1 rfl) ?_
  obtain ⟨r1, hu2, hf⟩ := pq_clx hf
  refine pq_cvI (n := 1) (As := [.int a1]) C hh (qX2_byteAt l D cI cL th_result th_result_row c_result_length f_result_row a1 r1 hu2) (gvX2_byteAt hs (pq_m27 _ (List.mem_of_getElem? (i := 13) rfl))) rfl (by decide +kernel) ⟨Nat.le_of_ble_eq_true rfl, Nat.le_of_ble_eq_true rfl⟩ 1 2 rfl rfl rfl hl.1 rfl rfl (Nat.le_of_ble_eq_true rfl) dX6_out_5 ⟨Nat.zero_le _, Nat.zero_le _⟩ [1, 2] [0] [0, 1, 2] rfl rfl (by decide) (by decide) (by decide) rfl (fun H locs (hh : pq_H D A s (wX6_out cI th th_lines th_tape th_result th_result_row c_result_length f_result_row) H locs) => ?_)
  obtain rfl := Option.some.inj hf
  exact hret _ _ _ ls hh dX6_out_8 rfl
set_option maxHeartbeats 4000000 in
set_option maxRecDepth 100000 in
theorem qX6_pack_o (l : Launch) (D : va_G) (cI cL : ClassId) (th : Nat) (th_lines : Nat) (th_tape : Nat) (th_result : Nat) (a1 : Int32) (a2 : Int32) (res : Int32) (hf : fX6_pack_o a1 a2 = some res) : pq_CI l yX6_pack qsX6_pack 6 149 D cI cL [.ref th, .int a1, .int a2] (wX6_pack_o cI th th_lines th_tape th_result) (wX6_pack_o cI th th_lines th_tape th_result) res := by
  refine pq_mkI (cc := cX6_pack) (maxL := 11) (RT := .int) (by decide) rfl (Nat.le_of_ble_eq_true rfl) ?_
  intro p e s m args below meth c Q A C hh hret ls hl
  have hx := C.1
  have hb := C.2.1
  have hml := C.2.2.1
  have hown : s.vm.findClass RX6 = some m.cls := C.2.2.2.1
  have hs : ∀ w ∈ wsL_law, w ∈ qsX6_pack := fun _ h => List.mem_cons_of_mem _ h
  have htw : ∀ w ∈ wsL_law, w.before args s = true := fun w h => C.2.2.2.2.1 w (hs w h)
  have hl : lv_has ls 11 [(0, .ref th), (1, .int a1), (2, .int a2)] := hl
  have kc34 := htw (.constant RX6 34 (-100000)) (pq_m7 _ (List.mem_of_getElem? (i := 3) rfl))
  rw [fX6_pack_o] at hf
  refine lv_aload_n hx hb dX6_pack_0 rfl (lv_at hl 0 rfl) ?_
  refine lv_iload_n hx hb dX6_pack_1 rfl (lv_at hl 1 rfl) ?_
  obtain ⟨u2, hu1, hf⟩ := pq_clx hf
  refine pq_cvQ (n := 1) (As := [.int a1]) C hh (qX6_openLine_o l D cI cL th th_lines th_tape th_result a1 u2 hu1) (gvX6_openLine hs (pq_m7 _ (List.mem_of_getElem? (i := 4) rfl))) rfl (by decide +kernel) ⟨Nat.le_of_ble_eq_true rfl, Nat.le_of_ble_eq_true rfl⟩ 0 5 rfl rfl rfl hl.1 rfl rfl (Nat.le_of_ble_eq_true rfl) dX6_pack_2 ⟨Nat.zero_le _, Nat.zero_le _⟩ [0] [] [0] rfl rfl (by decide) (by decide) (by decide) rfl (fun H locs (hh : pq_H D A s (wX6_pack_o cI th th_lines th_tape th_result) H locs) => ?_)
  refine lv_astore_nN (lv' := [(3, .null), (0, .ref th), (1, .int a1), (2, .int a2)]) hx hb dX6_pack_5 rfl hl (by decide) rfl (fun ls hl => ?_)
  refine lv_aload_nN hx hb dX6_pack_6 rfl (lv_at hl 0 rfl) ?_
  refine lv_ifnonnullN hx hb dX6_pack_7 ?_
  refine lv_ldc (v := (-100000 : Int32)) hx hb hown kc34 dX6_pack_10 ?_
  obtain rfl := Option.some.inj hf
  exact hret _ _ _ ls hh dX6_pack_12 rfl
set_option maxHeartbeats 4000000 in
set_option maxRecDepth 100000 in
theorem qX6_pack_i (l : Launch) (D : va_G) (cI cL : ClassId) (La : Nat → Nat) (th : Nat) (th_lines : Nat) (th_tape : Nat) (th_tape_row : Nat) (th_result : Nat) (th_result_row : Nat) (ln : Nat) (ln_adpcmHearer : Nat) (ln_wideHearer : Nat) (ln_adpcmSpeaker : Nat) (ln_adpcmSpeaker_numbers : Nat) (ln_wideSpeaker : Nat) (ln_wideSpeaker_low : Nat) (ln_wideSpeaker_low_numbers : Nat) (ln_wideSpeaker_high : Nat) (ln_wideSpeaker_high_numbers : Nat) (ln_wideSpeaker_x : Nat) (c_tape_length : Int32) (f_tape_row : Nat → Int32) (c_result_length : Int32) (f_result_row : Nat → Int32) (c_ln_kind : Int32) (c_ln_adpcmSpeaker_bits : Int32) (c_ln_adpcmSpeaker_se : Int32) (c_ln_adpcmSpeaker_sz : Int32) (c_ln_adpcmSpeaker_step : Int32) (f_ln_adpcmSpeaker_numbers : Nat → Int32) (c_ln_wideSpeaker_secondHeard : Int32) (f_ln_wideSpeaker_low_numbers : Nat → Int32) (f_ln_wideSpeaker_high_numbers : Nat → Int32) (f_ln_wideSpeaker_x : Nat → Int32) (a1 : Int32) (a2 : Int32) (hLa1 : La a1.toNatClampNeg = ln) (res : Int32 × Int32 × Int32 × (Nat → Int32) × Int32 × Int32 × Int32 × (Nat → Int32) × (Nat → Int32) × (Nat → Int32) × (Nat → Int32)) (hf : fX6_pack_i a1 a2 f_tape_row c_ln_kind c_ln_adpcmSpeaker_bits c_tape_length c_result_length f_result_row c_ln_adpcmSpeaker_se c_ln_adpcmSpeaker_sz c_ln_adpcmSpeaker_step f_ln_adpcmSpeaker_numbers f_ln_wideSpeaker_low_numbers f_ln_wideSpeaker_high_numbers f_ln_wideSpeaker_x = some res) : pq_CI l yX6_pack qsX6_pack 6 149 D cI cL [.ref th, .int a1, .int a2] (wX6_pack_i cI cL La th th_lines th_tape th_tape_row th_result th_result_row ln ln_adpcmHearer ln_wideHearer ln_adpcmSpeaker ln_adpcmSpeaker_numbers ln_wideSpeaker ln_wideSpeaker_low ln_wideSpeaker_low_numbers ln_wideSpeaker_high ln_wideSpeaker_high_numbers ln_wideSpeaker_x c_tape_length f_tape_row c_result_length f_result_row c_ln_kind c_ln_adpcmSpeaker_bits c_ln_adpcmSpeaker_se c_ln_adpcmSpeaker_sz c_ln_adpcmSpeaker_step f_ln_adpcmSpeaker_numbers c_ln_wideSpeaker_secondHeard f_ln_wideSpeaker_low_numbers f_ln_wideSpeaker_high_numbers f_ln_wideSpeaker_x) (wX6_pack_i cI cL La th th_lines th_tape th_tape_row th_result th_result_row ln ln_adpcmHearer ln_wideHearer ln_adpcmSpeaker ln_adpcmSpeaker_numbers ln_wideSpeaker ln_wideSpeaker_low ln_wideSpeaker_low_numbers ln_wideSpeaker_high ln_wideSpeaker_high_numbers ln_wideSpeaker_x res.2.1 f_tape_row res.2.2.1 res.2.2.2.1 c_ln_kind c_ln_adpcmSpeaker_bits res.2.2.2.2.1 res.2.2.2.2.2.1 res.2.2.2.2.2.2.1 res.2.2.2.2.2.2.2.1 c_ln_wideSpeaker_secondHeard res.2.2.2.2.2.2.2.2.1 res.2.2.2.2.2.2.2.2.2.1 res.2.2.2.2.2.2.2.2.2.2) res.1 := by
  refine pq_mkI (cc := cX6_pack) (maxL := 11) (RT := .int) (by decide) rfl (Nat.le_of_ble_eq_true rfl) ?_
  intro p e s m args below meth c Q A C hh hret ls hl
  have hx := C.1
  have hb := C.2.1
  have hml := C.2.2.1
  have hown : s.vm.findClass RX6 = some m.cls := C.2.2.2.1
  have hs : ∀ w ∈ wsL_law, w ∈ qsX6_pack := fun _ h => List.mem_cons_of_mem _ h
  have htw : ∀ w ∈ wsL_law, w.before args s = true := fun w h => C.2.2.2.2.1 w (hs w h)
  have hl : lv_has ls 11 [(0, .ref th), (1, .int a1), (2, .int a2)] := hl
  have i2 : ∀ w ∈ wsX20, w ∈ qsX6_pack := fun w h => hs w (pq_i2 w h)
  have i6 : ∀ w ∈ wsX60, w ∈ qsX6_pack := fun w h => hs w (pq_i6 w h)
  have kc34 := htw (.constant RX6 34 (-100000)) (pq_m7 _ (List.mem_of_getElem? (i := 3) rfl))
  have kf19 := htw (.fieldLink RX6 19 "VoiceDesk" "tape" "LVoiceDesk$Bytes;") (pq_m1 _ (List.mem_of_getElem? (i := 19) rfl))
  have kf23 := htw (.fieldLink RX6 23 "VoiceDesk" "result" "LVoiceDesk$Bytes;") (pq_m1 _ (List.mem_of_getElem? (i := 20) rfl))
  have J78 : ∀ (fuel78 : Nat) (x2 : Int32) (x4 : Int32) (x5 : Int32) (x6 : Int32) (x7 : Int32) (c_tape_length : Int32) (c_result_length : Int32) (f_result_row : Nat → Int32) (c_ln_adpcmSpeaker_se : Int32) (c_ln_adpcmSpeaker_sz : Int32) (c_ln_adpcmSpeaker_step : Int32) (f_ln_adpcmSpeaker_numbers : Nat → Int32) (f_ln_wideSpeaker_low_numbers : Nat → Int32) (f_ln_wideSpeaker_high_numbers : Nat → Int32) (f_ln_wideSpeaker_x : Nat → Int32) (H : Heap) (locs : List Loc), pq_H D A s (wX6_pack_i cI cL La th th_lines th_tape th_tape_row th_result th_result_row ln ln_adpcmHearer ln_wideHearer ln_adpcmSpeaker ln_adpcmSpeaker_numbers ln_wideSpeaker ln_wideSpeaker_low ln_wideSpeaker_low_numbers ln_wideSpeaker_high ln_wideSpeaker_high_numbers ln_wideSpeaker_x c_tape_length f_tape_row c_result_length f_result_row c_ln_kind c_ln_adpcmSpeaker_bits c_ln_adpcmSpeaker_se c_ln_adpcmSpeaker_sz c_ln_adpcmSpeaker_step f_ln_adpcmSpeaker_numbers c_ln_wideSpeaker_secondHeard f_ln_wideSpeaker_low_numbers f_ln_wideSpeaker_high_numbers f_ln_wideSpeaker_x) H locs → ∀ ls : Array Slot, lv_has ls 11 [(0, .ref th), (2, .int x2), (3, .ref ln), (4, .int x4), (5, .int x5), (6, .int x6), (7, .int x7)] → fX6_pack_i_b78  f_tape_row c_ln_kind c_ln_adpcmSpeaker_bits fuel78 x2 x4 x5 x6 x7 c_tape_length c_result_length f_result_row c_ln_adpcmSpeaker_se c_ln_adpcmSpeaker_sz c_ln_adpcmSpeaker_step f_ln_adpcmSpeaker_numbers f_ln_wideSpeaker_low_numbers f_ln_wideSpeaker_high_numbers f_ln_wideSpeaker_x = some res → W p l e (pq_rm 6 149) s m args below meth c H locs 0 0 Q (F0 m 78 ls []) := by
    intro fuel78
    induction fuel78 with
    | zero => intro x2 x4 x5 x6 x7 c_tape_length c_result_length f_result_row c_ln_adpcmSpeaker_se c_ln_adpcmSpeaker_sz c_ln_adpcmSpeaker_step f_ln_adpcmSpeaker_numbers f_ln_wideSpeaker_low_numbers f_ln_wideSpeaker_high_numbers f_ln_wideSpeaker_x H locs hh ls hl hf; rw [fX6_pack_i_b78] at hf; cases hf
    | succ fuel78 ih78 =>
      have J114 : ∀ (x2 : Int32) (x4 : Int32) (x5 : Int32) (x6 : Int32) (x7 : Int32) (x8 : Int32) (s0 : Int32) (c_tape_length : Int32) (c_result_length : Int32) (f_result_row : Nat → Int32) (c_ln_adpcmSpeaker_se : Int32) (c_ln_adpcmSpeaker_sz : Int32) (c_ln_adpcmSpeaker_step : Int32) (f_ln_adpcmSpeaker_numbers : Nat → Int32) (f_ln_wideSpeaker_low_numbers : Nat → Int32) (f_ln_wideSpeaker_high_numbers : Nat → Int32) (f_ln_wideSpeaker_x : Nat → Int32) (H : Heap) (locs : List Loc), pq_H D A s (wX6_pack_i cI cL La th th_lines th_tape th_tape_row th_result th_result_row ln ln_adpcmHearer ln_wideHearer ln_adpcmSpeaker ln_adpcmSpeaker_numbers ln_wideSpeaker ln_wideSpeaker_low ln_wideSpeaker_low_numbers ln_wideSpeaker_high ln_wideSpeaker_high_numbers ln_wideSpeaker_x c_tape_length f_tape_row c_result_length f_result_row c_ln_kind c_ln_adpcmSpeaker_bits c_ln_adpcmSpeaker_se c_ln_adpcmSpeaker_sz c_ln_adpcmSpeaker_step f_ln_adpcmSpeaker_numbers c_ln_wideSpeaker_secondHeard f_ln_wideSpeaker_low_numbers f_ln_wideSpeaker_high_numbers f_ln_wideSpeaker_x) H locs → ∀ ls : Array Slot, lv_has ls 11 [(0, .ref th), (2, .int x2), (3, .ref ln), (4, .int x4), (5, .int x5), (6, .int x6), (7, .int x7), (8, .int x8)] → fX6_pack_i_b114 (fX6_pack_i_b78  f_tape_row c_ln_kind c_ln_adpcmSpeaker_bits fuel78) f_tape_row c_ln_kind c_ln_adpcmSpeaker_bits x2 x4 x5 x6 x7 x8 s0 c_tape_length c_result_length f_result_row c_ln_adpcmSpeaker_se c_ln_adpcmSpeaker_sz c_ln_adpcmSpeaker_step f_ln_adpcmSpeaker_numbers f_ln_wideSpeaker_low_numbers f_ln_wideSpeaker_high_numbers f_ln_wideSpeaker_x = some res → W p l e (pq_rm 6 149) s m args below meth c H locs 0 0 Q (F0 m 114 ls [.int s0]) := by
        intro x2 x4 x5 x6 x7 x8 s0 c_tape_length c_result_length f_result_row c_ln_adpcmSpeaker_se c_ln_adpcmSpeaker_sz c_ln_adpcmSpeaker_step f_ln_adpcmSpeaker_numbers f_ln_wideSpeaker_low_numbers f_ln_wideSpeaker_high_numbers f_ln_wideSpeaker_x H locs hh ls hl hf
        rw [fX6_pack_i_b114] at hf
        refine lv_istore (lv' := [(9, .int s0), (0, .ref th), (2, .int x2), (3, .ref ln), (4, .int x4), (5, .int x5), (6, .int x6), (7, .int x7), (8, .int x8)]) hx hb dX6_pack_114 hl (by decide) rfl (fun ls hl => ?_)
        refine lv_aload_n hx hb dX6_pack_116 rfl (lv_at hl 3 rfl) ?_
        refine lv_aload_n hx hb dX6_pack_117 rfl (lv_at hl 1 rfl) ?_
        refine pq_get C hh i6 0 5 rfl rfl 1 (by decide) kf19 rfl rfl dX6_pack_118 ?_
        refine lv_iload hx hb dX6_pack_121 (lv_at hl 8 rfl) ?_
        obtain ⟨r24, hu25, hf⟩ := pq_clx hf
        refine pq_cvI (n := 1) (As := [.int x8]) C hh (qX2_sampleAt l D cI cL th_tape th_tape_row c_tape_length f_tape_row x8 r24 hu25) (gvX2_sampleAt hs (pq_m28 _ (List.mem_of_getElem? (i := 11) rfl))) rfl (by decide +kernel) ⟨Nat.le_of_ble_eq_true rfl, Nat.le_of_ble_eq_true rfl⟩ 2 2 rfl rfl rfl hl.1 rfl rfl (Nat.le_of_ble_eq_true rfl) dX6_pack_123 ⟨Nat.zero_le _, Nat.zero_le _⟩ [2, 3] [0, 1, 4, 5, 6, 7, 8, 9, 10, 11, 12, 13, 14] [0, 1, 13, 14, 2, 3, 4, 5, 6, 7, 8, 9, 10, 11, 12] rfl rfl (by decide) (by decide) (by decide) rfl (fun H locs (hh : pq_H D A s (wX6_pack_i cI cL La th th_lines th_tape th_tape_row th_result th_result_row ln ln_adpcmHearer ln_wideHearer ln_adpcmSpeaker ln_adpcmSpeaker_numbers ln_wideSpeaker ln_wideSpeaker_low ln_wideSpeaker_low_numbers ln_wideSpeaker_high ln_wideSpeaker_high_numbers ln_wideSpeaker_x c_tape_length f_tape_row c_result_length f_result_row c_ln_kind c_ln_adpcmSpeaker_bits c_ln_adpcmSpeaker_se c_ln_adpcmSpeaker_sz c_ln_adpcmSpeaker_step f_ln_adpcmSpeaker_numbers c_ln_wideSpeaker_secondHeard f_ln_wideSpeaker_low_numbers f_ln_wideSpeaker_high_numbers f_ln_wideSpeaker_x) H locs) => ?_)
        refine lv_iload hx hb dX6_pack_126 (lv_at hl 0 rfl) ?_
        obtain ⟨⟨r26, c27, c28, c29, f30, f31, f32, f33⟩, hu34, hf⟩ := pq_clx hf
        have hf := pq_nmx hf r26 rfl
        have hf := pq_nmx hf c27 rfl
        have hf := pq_nmx hf c28 rfl
        have hf := pq_nmx hf c29 rfl
        have hf := pq_nmx hf f30 rfl
        have hf := pq_nmx hf f31 rfl
        have hf := pq_nmx hf f32 rfl
        have hf := pq_nmx hf f33 rfl
        refine pq_cvI (n := 2) (As := [.int r24, .int s0]) C hh (qX4_encode l D cI cL ln ln_adpcmHearer ln_wideHearer ln_adpcmSpeaker ln_adpcmSpeaker_numbers ln_wideSpeaker ln_wideSpeaker_low ln_wideSpeaker_low_numbers ln_wideSpeaker_high ln_wideSpeaker_high_numbers ln_wideSpeaker_x c_ln_kind c_ln_adpcmSpeaker_bits c_ln_adpcmSpeaker_se c_ln_adpcmSpeaker_sz c_ln_adpcmSpeaker_step f_ln_adpcmSpeaker_numbers c_ln_wideSpeaker_secondHeard f_ln_wideSpeaker_low_numbers f_ln_wideSpeaker_high_numbers f_ln_wideSpeaker_x r24 s0 (r26, c27, c28, c29, f30, f31, f32, f33) hu34) (gvX4_encode hs (pq_m7 _ (List.mem_of_getElem? (i := 20) rfl))) rfl (by decide +kernel) ⟨Nat.le_of_ble_eq_true rfl, Nat.le_of_ble_eq_true rfl⟩ 6 3 rfl rfl rfl hl.1 rfl rfl (Nat.le_of_ble_eq_true rfl) dX6_pack_128 ⟨Nat.zero_le _, Nat.zero_le _⟩ [6, 7, 8, 9, 10, 11, 12, 13, 14] [0, 1, 2, 3, 4, 5] [0, 1, 2, 3, 4, 5, 6, 7, 8, 9, 10, 11, 12, 13, 14] rfl rfl (by decide) (by decide) (by decide) rfl (fun H locs (hh : pq_H D A s (wX6_pack_i cI cL La th th_lines th_tape th_tape_row th_result th_result_row ln ln_adpcmHearer ln_wideHearer ln_adpcmSpeaker ln_adpcmSpeaker_numbers ln_wideSpeaker ln_wideSpeaker_low ln_wideSpeaker_low_numbers ln_wideSpeaker_high ln_wideSpeaker_high_numbers ln_wideSpeaker_x c_tape_length f_tape_row c_result_length f_result_row c_ln_kind c_ln_adpcmSpeaker_bits c27 c28 c29 f30 c_ln_wideSpeaker_secondHeard f31 f32 f33) H locs) => ?_)
        refine lv_istore (lv' := [(10, .int r26), (9, .int s0), (0, .ref th), (2, .int x2), (3, .ref ln), (4, .int x4), (5, .int x5), (6, .int x6), (7, .int x7), (8, .int x8)]) hx hb dX6_pack_131 hl (by decide) rfl (fun ls hl => ?_)
        refine lv_aload_n hx hb dX6_pack_133 rfl (lv_at hl 2 rfl) ?_
        refine pq_get C hh i6 0 5 rfl rfl 2 (by decide) kf23 rfl rfl dX6_pack_134 ?_
        refine lv_iload hx hb dX6_pack_137 (lv_at hl 8 rfl) ?_
        refine lv_iload hx hb dX6_pack_139 (lv_at hl 7 rfl) ?_
        refine lv_iload_n hx hb dX6_pack_141 rfl (lv_at hl 3 rfl) ?_
        refine lv_iload hx hb dX6_pack_142 (lv_at hl 0 rfl) ?_
        obtain ⟨f36, hu37, hf⟩ := pq_clx hf
        refine pq_cvV (n := 4) (As := [.int x7, .int x6, .int x2, .int r26]) C hh (qX2_putCode l D cI cL th_result th_result_row c_result_length f_result_row x7 x6 x2 r26 f36 hu37) (gvX2_putCode hs (pq_m28 _ (List.mem_of_getElem? (i := 16) rfl))) rfl (by decide +kernel) ⟨Nat.le_of_ble_eq_true rfl, Nat.le_of_ble_eq_true rfl⟩ 4 2 rfl rfl rfl hl.1 rfl rfl (Nat.le_of_ble_eq_true rfl) dX6_pack_144 ⟨Nat.zero_le _, Nat.zero_le _⟩ [4, 5] [0, 1, 2, 3, 6, 7, 8, 9, 10, 11, 12, 13, 14] [0, 1, 2, 3, 13, 14, 4, 5, 6, 7, 8, 9, 10, 11, 12] rfl rfl (by decide) (by decide) (by decide) rfl (fun H locs (hh : pq_H D A s (wX6_pack_i cI cL La th th_lines th_tape th_tape_row th_result th_result_row ln ln_adpcmHearer ln_wideHearer ln_adpcmSpeaker ln_adpcmSpeaker_numbers ln_wideSpeaker ln_wideSpeaker_low ln_wideSpeaker_low_numbers ln_wideSpeaker_high ln_wideSpeaker_high_numbers ln_wideSpeaker_x c_tape_length f_tape_row c_result_length f36 c_ln_kind c_ln_adpcmSpeaker_bits c27 c28 c29 f30 c_ln_wideSpeaker_secondHeard f31 f32 f33) H locs) => ?_)
        obtain ⟨v38, e39⟩ : ∃ y : Int32, y = x7 + (1 : Int32) := ⟨_, rfl⟩
        refine lv_iinc (v := v38) (lv' := [(7, .int v38), (10, .int r26), (9, .int s0), (0, .ref th), (2, .int x2), (3, .ref ln), (4, .int x4), (5, .int x5), (6, .int x6), (8, .int x8)]) hx hb dX6_pack_147 hl (k := 8) rfl (by rw [e39]; rfl) (by decide) rfl (fun ls hl => ?_)
        have hf := pq_nmx hf v38 e39
        refine lv_goto (tgt := 78) hx hb dX6_pack_150 (by decide) ?_
        exact ih78 x2 x4 x5 x6 v38 c_tape_length c_result_length f36 c27 c28 c29 f30 f31 f32 f33 _ _ hh ls (lv_sub hl [3, 4, 5, 6, 7, 8, 0] rfl) hf
      intro x2 x4 x5 x6 x7 c_tape_length c_result_length f_result_row c_ln_adpcmSpeaker_se c_ln_adpcmSpeaker_sz c_ln_adpcmSpeaker_step f_ln_adpcmSpeaker_numbers f_ln_wideSpeaker_low_numbers f_ln_wideSpeaker_high_numbers f_ln_wideSpeaker_x H locs hh ls hl hf
      rw [fX6_pack_i_b78] at hf
      refine lv_iload hx hb dX6_pack_78 (lv_at hl 6 rfl) ?_
      refine lv_iload hx hb dX6_pack_80 (lv_at hl 4 rfl) ?_
      refine lv_icmp_ge (tgt := 153) hx hb dX6_pack_82 (by decide) (fun h16 => ?_) (fun h16 => ?_)
      · have hf := pq_brt hf h16
        refine lv_aload_n hx hb dX6_pack_153 rfl (lv_at hl 0 rfl) ?_
        refine pq_get C hh i6 0 5 rfl rfl 1 (by decide) kf19 rfl rfl dX6_pack_154 ?_
        refine lv_iconst (v := (0 : Int32)) hx hb dX6_pack_157 (by decide) ?_
        refine pq_putN (ty := .int) (v := .int (0 : Int32)) (host := "VoiceDesk") C hh i2 tyX2 tyX2_ok nmX2 2 2 rfl rfl 1 (by decide) (List.mem_of_getElem? (i := 2) rfl) rfl rfl (by decide +kernel) rfl rfl (Nat.le_of_ble_eq_true rfl) dX6_pack_158 (fun H locs (hh : pq_H D A s (wX6_pack_i cI cL La th th_lines th_tape th_tape_row th_result th_result_row ln ln_adpcmHearer ln_wideHearer ln_adpcmSpeaker ln_adpcmSpeaker_numbers ln_wideSpeaker ln_wideSpeaker_low ln_wideSpeaker_low_numbers ln_wideSpeaker_high ln_wideSpeaker_high_numbers ln_wideSpeaker_x (0 : Int32) f_tape_row c_result_length f_result_row c_ln_kind c_ln_adpcmSpeaker_bits c_ln_adpcmSpeaker_se c_ln_adpcmSpeaker_sz c_ln_adpcmSpeaker_step f_ln_adpcmSpeaker_numbers c_ln_wideSpeaker_secondHeard f_ln_wideSpeaker_low_numbers f_ln_wideSpeaker_high_numbers f_ln_wideSpeaker_x) H locs) => ?_)
        refine lv_iload hx hb dX6_pack_161 (lv_at hl 4 rfl) ?_
        obtain rfl := Option.some.inj hf
        exact hret _ _ _ ls hh dX6_pack_163 rfl
      · have hf := pq_brf hf h16
        refine lv_iload hx hb dX6_pack_85 (lv_at hl 6 rfl) ?_
        refine lv_iload hx hb dX6_pack_87 (lv_at hl 3 rfl) ?_
        refine lv_ishl hx hb dX6_pack_89 ?_
        refine lv_topi (fun v17 e18 => ?_)
        have hf := pq_nmx hf v17 e18
        refine lv_istore (lv' := [(8, .int v17), (0, .ref th), (2, .int x2), (3, .ref ln), (4, .int x4), (5, .int x5), (6, .int x6), (7, .int x7)]) hx hb dX6_pack_90 hl (by decide) rfl (fun ls hl => ?_)
        refine lv_aload_n hx hb dX6_pack_92 rfl (lv_at hl 3 rfl) ?_
        obtain ⟨r19, hu20, hf⟩ := pq_clx hf
        refine pq_cvI (n := 0) (As := []) C hh (qX4_isWide l D cI cL ln ln_adpcmSpeaker ln_adpcmHearer ln_wideSpeaker ln_wideHearer c_ln_kind r19 hu20) (gvX4_isWide hs (pq_m7 _ (List.mem_of_getElem? (i := 16) rfl))) rfl (by decide +kernel) ⟨Nat.le_of_ble_eq_true rfl, Nat.le_of_ble_eq_true rfl⟩ 6 3 rfl rfl rfl hl.1 rfl rfl (Nat.le_of_ble_eq_true rfl) dX6_pack_93 ⟨Nat.zero_le _, Nat.zero_le _⟩ [6] [0, 1, 2, 3, 4, 5, 7, 8, 9, 10, 11, 12, 13, 14] [0, 1, 2, 3, 4, 5, 14, 6, 7, 8, 9, 10, 11, 12, 13] rfl rfl (by decide) (by decide) (by decide) rfl (fun H locs (hh : pq_H D A s (wX6_pack_i cI cL La th th_lines th_tape th_tape_row th_result th_result_row ln ln_adpcmHearer ln_wideHearer ln_adpcmSpeaker ln_adpcmSpeaker_numbers ln_wideSpeaker ln_wideSpeaker_low ln_wideSpeaker_low_numbers ln_wideSpeaker_high ln_wideSpeaker_high_numbers ln_wideSpeaker_x c_tape_length f_tape_row c_result_length f_result_row c_ln_kind c_ln_adpcmSpeaker_bits c_ln_adpcmSpeaker_se c_ln_adpcmSpeaker_sz c_ln_adpcmSpeaker_step f_ln_adpcmSpeaker_numbers c_ln_wideSpeaker_secondHeard f_ln_wideSpeaker_low_numbers f_ln_wideSpeaker_high_numbers f_ln_wideSpeaker_x) H locs) => ?_)
        refine lv_if_eq (tgt := 113) hx hb dX6_pack_96 (by decide) (fun h21 => ?_) (fun h21 => ?_)
        · have hf := pq_brt hf h21
          refine lv_iconst (v := (0 : Int32)) hx hb dX6_pack_113 (by decide) ?_
          exact J114 x2 x4 x5 x6 x7 v17 (0 : Int32) c_tape_length c_result_length f_result_row c_ln_adpcmSpeaker_se c_ln_adpcmSpeaker_sz c_ln_adpcmSpeaker_step f_ln_adpcmSpeaker_numbers f_ln_wideSpeaker_low_numbers f_ln_wideSpeaker_high_numbers f_ln_wideSpeaker_x _ _ hh ls (lv_sub hl [1, 2, 3, 4, 5, 6, 7, 0] rfl) hf
        · have hf := pq_brf hf h21
          refine lv_aload_n hx hb dX6_pack_99 rfl (lv_at hl 1 rfl) ?_
          refine pq_get C hh i6 0 5 rfl rfl 1 (by decide) kf19 rfl rfl dX6_pack_100 ?_
          refine lv_iload hx hb dX6_pack_103 (lv_at hl 0 rfl) ?_
          refine lv_iconst (v := (2 : Int32)) hx hb dX6_pack_105 (by decide) ?_
          refine lv_iadd hx hb dX6_pack_106 ?_
          obtain ⟨r22, hu23, hf⟩ := pq_clx hf
          refine pq_cvI (n := 1) (As := [.int (v17 + (2 : Int32))]) C hh (qX2_sampleAt l D cI cL th_tape th_tape_row c_tape_length f_tape_row (v17 + (2 : Int32)) r22 hu23) (gvX2_sampleAt hs (pq_m28 _ (List.mem_of_getElem? (i := 11) rfl))) rfl (by decide +kernel) ⟨Nat.le_of_ble_eq_true rfl, Nat.le_of_ble_eq_true rfl⟩ 2 2 rfl rfl rfl hl.1 rfl rfl (Nat.le_of_ble_eq_true rfl) dX6_pack_107 ⟨Nat.zero_le _, Nat.zero_le _⟩ [2, 3] [0, 1, 4, 5, 6, 7, 8, 9, 10, 11, 12, 13, 14] [0, 1, 13, 14, 2, 3, 4, 5, 6, 7, 8, 9, 10, 11, 12] rfl rfl (by decide) (by decide) (by decide) rfl (fun H locs (hh : pq_H D A s (wX6_pack_i cI cL La th th_lines th_tape th_tape_row th_result th_result_row ln ln_adpcmHearer ln_wideHearer ln_adpcmSpeaker ln_adpcmSpeaker_numbers ln_wideSpeaker ln_wideSpeaker_low ln_wideSpeaker_low_numbers ln_wideSpeaker_high ln_wideSpeaker_high_numbers ln_wideSpeaker_x c_tape_length f_tape_row c_result_length f_result_row c_ln_kind c_ln_adpcmSpeaker_bits c_ln_adpcmSpeaker_se c_ln_adpcmSpeaker_sz c_ln_adpcmSpeaker_step f_ln_adpcmSpeaker_numbers c_ln_wideSpeaker_secondHeard f_ln_wideSpeaker_low_numbers f_ln_wideSpeaker_high_numbers f_ln_wideSpeaker_x) H locs) => ?_)
          refine lv_goto (tgt := 114) hx hb dX6_pack_110 (by decide) ?_
          exact J114 x2 x4 x5 x6 x7 v17 r22 c_tape_length c_result_length f_result_row c_ln_adpcmSpeaker_se c_ln_adpcmSpeaker_sz c_ln_adpcmSpeaker_step f_ln_adpcmSpeaker_numbers f_ln_wideSpeaker_low_numbers f_ln_wideSpeaker_high_numbers f_ln_wideSpeaker_x _ _ hh ls (lv_sub hl [1, 2, 3, 4, 5, 6, 7, 0] rfl) hf
  have J25 : ∀ (x2 : Int32) (s0 : Int32) (c_tape_length : Int32) (c_result_length : Int32) (f_result_row : Nat → Int32) (c_ln_adpcmSpeaker_se : Int32) (c_ln_adpcmSpeaker_sz : Int32) (c_ln_adpcmSpeaker_step : Int32) (f_ln_adpcmSpeaker_numbers : Nat → Int32) (f_ln_wideSpeaker_low_numbers : Nat → Int32) (f_ln_wideSpeaker_high_numbers : Nat → Int32) (f_ln_wideSpeaker_x : Nat → Int32) (H : Heap) (locs : List Loc), pq_H D A s (wX6_pack_i cI cL La th th_lines th_tape th_tape_row th_result th_result_row ln ln_adpcmHearer ln_wideHearer ln_adpcmSpeaker ln_adpcmSpeaker_numbers ln_wideSpeaker ln_wideSpeaker_low ln_wideSpeaker_low_numbers ln_wideSpeaker_high ln_wideSpeaker_high_numbers ln_wideSpeaker_x c_tape_length f_tape_row c_result_length f_result_row c_ln_kind c_ln_adpcmSpeaker_bits c_ln_adpcmSpeaker_se c_ln_adpcmSpeaker_sz c_ln_adpcmSpeaker_step f_ln_adpcmSpeaker_numbers c_ln_wideSpeaker_secondHeard f_ln_wideSpeaker_low_numbers f_ln_wideSpeaker_high_numbers f_ln_wideSpeaker_x) H locs → ∀ ls : Array Slot, lv_has ls 11 [(0, .ref th), (2, .int x2), (3, .ref ln)] → fX6_pack_i_b25  f_tape_row c_ln_kind c_ln_adpcmSpeaker_bits x2 s0 c_tape_length c_result_length f_result_row c_ln_adpcmSpeaker_se c_ln_adpcmSpeaker_sz c_ln_adpcmSpeaker_step f_ln_adpcmSpeaker_numbers f_ln_wideSpeaker_low_numbers f_ln_wideSpeaker_high_numbers f_ln_wideSpeaker_x = some res → W p l e (pq_rm 6 149) s m args below meth c H locs 0 0 Q (F0 m 25 ls [.int s0]) := by
    intro x2 s0 c_tape_length c_result_length f_result_row c_ln_adpcmSpeaker_se c_ln_adpcmSpeaker_sz c_ln_adpcmSpeaker_step f_ln_adpcmSpeaker_numbers f_ln_wideSpeaker_low_numbers f_ln_wideSpeaker_high_numbers f_ln_wideSpeaker_x H locs hh ls hl hf
    rw [fX6_pack_i_b25] at hf
    refine lv_istore (lv' := [(4, .int s0), (0, .ref th), (2, .int x2), (3, .ref ln)]) hx hb dX6_pack_25 hl (by decide) rfl (fun ls hl => ?_)
    refine lv_aload_n hx hb dX6_pack_27 rfl (lv_at hl 1 rfl) ?_
    refine pq_get C hh i6 0 5 rfl rfl 1 (by decide) kf19 rfl rfl dX6_pack_28 ?_
    refine pq_getN (host := "VoiceDesk") C hh i2 2 2 rfl rfl 1 (by decide) (List.mem_of_getElem? (i := 2) rfl) rfl rfl dX6_pack_31 ?_
    refine lv_iload hx hb dX6_pack_34 (lv_at hl 0 rfl) ?_
    refine lv_ishr hx hb dX6_pack_36 ?_
    refine lv_topi (fun v7 e8 => ?_)
    have hf := pq_nmx hf v7 e8
    refine lv_istore (lv' := [(5, .int v7), (4, .int s0), (0, .ref th), (2, .int x2), (3, .ref ln)]) hx hb dX6_pack_37 hl (by decide) rfl (fun ls hl => ?_)
    refine lv_iload hx hb dX6_pack_39 (lv_at hl 0 rfl) ?_
    refine lv_iload hx hb dX6_pack_41 (lv_at hl 1 rfl) ?_
    refine lv_ishl hx hb dX6_pack_43 ?_
    refine lv_aload_n hx hb dX6_pack_44 rfl (lv_at hl 2 rfl) ?_
    refine pq_get C hh i6 0 5 rfl rfl 1 (by decide) kf19 rfl rfl dX6_pack_45 ?_
    refine pq_getN (host := "VoiceDesk") C hh i2 2 2 rfl rfl 1 (by decide) (List.mem_of_getElem? (i := 2) rfl) rfl rfl dX6_pack_48 ?_
    refine lv_icmp_eq (tgt := 57) hx hb dX6_pack_51 (by decide) (fun h9 => ?_) (fun h9 => ?_)
    · have hf := pq_brt hf h9
      refine lv_aload_n hx hb dX6_pack_57 rfl (lv_at hl 4 rfl) ?_
      obtain ⟨r10, hu11, hf⟩ := pq_clx hf
      refine pq_cvI (n := 0) (As := []) C hh (qX4_codeBits l D cI cL ln ln_adpcmSpeaker ln_adpcmHearer ln_wideSpeaker ln_wideHearer c_ln_kind r10 hu11) (gvX4_codeBits hs (pq_m28 _ (List.mem_of_getElem? (i := 2) rfl))) rfl (by decide +kernel) ⟨Nat.le_of_ble_eq_true rfl, Nat.le_of_ble_eq_true rfl⟩ 6 3 rfl rfl rfl hl.1 rfl rfl (Nat.le_of_ble_eq_true rfl) dX6_pack_58 ⟨Nat.zero_le _, Nat.zero_le _⟩ [6] [0, 1, 2, 3, 4, 5, 7, 8, 9, 10, 11, 12, 13, 14] [0, 1, 2, 3, 4, 5, 14, 6, 7, 8, 9, 10, 11, 12, 13] rfl rfl (by decide) (by decide) (by decide) rfl (fun H locs (hh : pq_H D A s (wX6_pack_i cI cL La th th_lines th_tape th_tape_row th_result th_result_row ln ln_adpcmHearer ln_wideHearer ln_adpcmSpeaker ln_adpcmSpeaker_numbers ln_wideSpeaker ln_wideSpeaker_low ln_wideSpeaker_low_numbers ln_wideSpeaker_high ln_wideSpeaker_high_numbers ln_wideSpeaker_x c_tape_length f_tape_row c_result_length f_result_row c_ln_kind c_ln_adpcmSpeaker_bits c_ln_adpcmSpeaker_se c_ln_adpcmSpeaker_sz c_ln_adpcmSpeaker_step f_ln_adpcmSpeaker_numbers c_ln_wideSpeaker_secondHeard f_ln_wideSpeaker_low_numbers f_ln_wideSpeaker_high_numbers f_ln_wideSpeaker_x) H locs) => ?_)
      refine lv_istore (lv' := [(6, .int r10), (5, .int v7), (4, .int s0), (0, .ref th), (2, .int x2), (3, .ref ln)]) hx hb dX6_pack_61 hl (by decide) rfl (fun ls hl => ?_)
      refine lv_aload_n hx hb dX6_pack_63 rfl (lv_at hl 3 rfl) ?_
      refine pq_get C hh i6 0 5 rfl rfl 2 (by decide) kf23 rfl rfl dX6_pack_64 ?_
      refine lv_iload hx hb dX6_pack_67 (lv_at hl 1 rfl) ?_
      refine lv_iload hx hb dX6_pack_69 (lv_at hl 0 rfl) ?_
      refine lv_imul hx hb dX6_pack_71 ?_
      obtain ⟨⟨c12, f13⟩, hu14, hf⟩ := pq_clx hf
      have hf := pq_nmx hf c12 rfl
      have hf := pq_nmx hf f13 rfl
      refine pq_cvV (n := 1) (As := [.int (v7 * r10)]) C hh (qX2_clearFor l D cI cL th_result th_result_row c_result_length f_result_row (v7 * r10) (c12, f13) hu14) (gvX2_clearFor hs (pq_m28 _ (List.mem_of_getElem? (i := 3) rfl))) rfl (by decide +kernel) ⟨Nat.le_of_ble_eq_true rfl, Nat.le_of_ble_eq_true rfl⟩ 4 2 rfl rfl rfl hl.1 rfl rfl (Nat.le_of_ble_eq_true rfl) dX6_pack_72 ⟨Nat.zero_le _, Nat.zero_le _⟩ [4, 5] [0, 1, 2, 3, 6, 7, 8, 9, 10, 11, 12, 13, 14] [0, 1, 2, 3, 13, 14, 4, 5, 6, 7, 8, 9, 10, 11, 12] rfl rfl (by decide) (by decide) (by decide) rfl (fun H locs (hh : pq_H D A s (wX6_pack_i cI cL La th th_lines th_tape th_tape_row th_result th_result_row ln ln_adpcmHearer ln_wideHearer ln_adpcmSpeaker ln_adpcmSpeaker_numbers ln_wideSpeaker ln_wideSpeaker_low ln_wideSpeaker_low_numbers ln_wideSpeaker_high ln_wideSpeaker_high_numbers ln_wideSpeaker_x c_tape_length f_tape_row c12 f13 c_ln_kind c_ln_adpcmSpeaker_bits c_ln_adpcmSpeaker_se c_ln_adpcmSpeaker_sz c_ln_adpcmSpeaker_step f_ln_adpcmSpeaker_numbers c_ln_wideSpeaker_secondHeard f_ln_wideSpeaker_low_numbers f_ln_wideSpeaker_high_numbers f_ln_wideSpeaker_x) H locs) => ?_)
      refine lv_iconst (v := (0 : Int32)) hx hb dX6_pack_75 (by decide) ?_
      refine lv_istore (lv' := [(7, .int (0 : Int32)), (6, .int r10), (5, .int v7), (4, .int s0), (0, .ref th), (2, .int x2), (3, .ref ln)]) hx hb dX6_pack_76 hl (by decide) rfl (fun ls hl => ?_)
      exact J78 1100 x2 s0 v7 r10 (0 : Int32) c_tape_length c12 f13 c_ln_adpcmSpeaker_se c_ln_adpcmSpeaker_sz c_ln_adpcmSpeaker_step f_ln_adpcmSpeaker_numbers f_ln_wideSpeaker_low_numbers f_ln_wideSpeaker_high_numbers f_ln_wideSpeaker_x _ _ hh ls (lv_sub hl [4, 5, 6, 3, 2, 1, 0] rfl) hf
    · have hf := pq_brf hf h9
      refine lv_ldc (v := (-100000 : Int32)) hx hb hown kc34 dX6_pack_54 ?_
      obtain rfl := Option.some.inj hf
      exact hret _ _ _ ls hh dX6_pack_56 rfl
  rw [fX6_pack_i] at hf
  refine lv_aload_n hx hb dX6_pack_0 rfl (lv_at hl 0 rfl) ?_
  refine lv_iload_n hx hb dX6_pack_1 rfl (lv_at hl 1 rfl) ?_
  obtain ⟨r1, hu2, hf⟩ := pq_clx hf
  refine pq_cvQ (n := 1) (As := [.int a1]) C hh (qX6_openLine_i l D cI cL La th th_tape th_result th_lines ln ln_adpcmSpeaker ln_adpcmHearer ln_wideSpeaker ln_wideHearer c_ln_kind a1 hLa1 r1 hu2) (gvX6_openLine hs (pq_m7 _ (List.mem_of_getElem? (i := 4) rfl))) rfl (by decide +kernel) ⟨Nat.le_of_ble_eq_true rfl, Nat.le_of_ble_eq_true rfl⟩ 0 5 rfl rfl rfl hl.1 rfl rfl (Nat.le_of_ble_eq_true rfl) dX6_pack_2 ⟨Nat.zero_le _, Nat.zero_le _⟩ [0, 1, 6] [2, 3, 4, 5, 7, 8, 9, 10, 11, 12, 13, 14] [12, 13, 0, 1, 2, 3, 14, 4, 5, 6, 7, 8, 9, 10, 11] rfl rfl (by decide) (by decide) (by decide) rfl (fun H locs (hh : pq_H D A s (wX6_pack_i cI cL La th th_lines th_tape th_tape_row th_result th_result_row ln ln_adpcmHearer ln_wideHearer ln_adpcmSpeaker ln_adpcmSpeaker_numbers ln_wideSpeaker ln_wideSpeaker_low ln_wideSpeaker_low_numbers ln_wideSpeaker_high ln_wideSpeaker_high_numbers ln_wideSpeaker_x c_tape_length f_tape_row c_result_length f_result_row c_ln_kind c_ln_adpcmSpeaker_bits c_ln_adpcmSpeaker_se c_ln_adpcmSpeaker_sz c_ln_adpcmSpeaker_step f_ln_adpcmSpeaker_numbers c_ln_wideSpeaker_secondHeard f_ln_wideSpeaker_low_numbers f_ln_wideSpeaker_high_numbers f_ln_wideSpeaker_x) H locs) => ?_)
  by_cases h3 : r1 = 0
  · have hf := pq_brt hf h3
    rw [if_pos h3]
    refine W.eq (g2 := F0 m 5 ls [.null]) rfl ?_
    refine lv_astore_nN (lv' := [(3, .null), (0, .ref th), (1, .int a1), (2, .int a2)]) hx hb dX6_pack_5 rfl hl (by decide) rfl (fun ls hl => ?_)
    refine lv_aload_nN hx hb dX6_pack_6 rfl (lv_at hl 0 rfl) ?_
    refine lv_ifnonnullN hx hb dX6_pack_7 ?_
    refine lv_ldc (v := (-100000 : Int32)) hx hb hown kc34 dX6_pack_10 ?_
    obtain rfl := Option.some.inj hf
    exact hret _ _ _ ls hh dX6_pack_12 rfl
  · have hf := pq_brf hf h3
    rw [if_neg h3]
    refine W.eq (g2 := F0 m 5 ls [.ref ln]) rfl ?_
    refine lv_astore_n (lv' := [(3, .ref ln), (0, .ref th), (1, .int a1), (2, .int a2)]) hx hb dX6_pack_5 rfl hl (by decide) rfl (fun ls hl => ?_)
    refine lv_aload_n hx hb dX6_pack_6 rfl (lv_at hl 0 rfl) ?_
    refine lv_ifnonnull (tgt := 13) hx hb dX6_pack_7 (by decide) ?_
    refine lv_aload_n hx hb dX6_pack_13 rfl (lv_at hl 0 rfl) ?_
    obtain ⟨r4, hu5, hf⟩ := pq_clx hf
    refine pq_cvI (n := 0) (As := []) C hh (qX4_isWide l D cI cL ln ln_adpcmSpeaker ln_adpcmHearer ln_wideSpeaker ln_wideHearer c_ln_kind r4 hu5) (gvX4_isWide hs (pq_m7 _ (List.mem_of_getElem? (i := 16) rfl))) rfl (by decide +kernel) ⟨Nat.le_of_ble_eq_true rfl, Nat.le_of_ble_eq_true rfl⟩ 6 3 rfl rfl rfl hl.1 rfl rfl (Nat.le_of_ble_eq_true rfl) dX6_pack_14 ⟨Nat.zero_le _, Nat.zero_le _⟩ [6] [0, 1, 2, 3, 4, 5, 7, 8, 9, 10, 11, 12, 13, 14] [0, 1, 2, 3, 4, 5, 14, 6, 7, 8, 9, 10, 11, 12, 13] rfl rfl (by decide) (by decide) (by decide) rfl (fun H locs (hh : pq_H D A s (wX6_pack_i cI cL La th th_lines th_tape th_tape_row th_result th_result_row ln ln_adpcmHearer ln_wideHearer ln_adpcmSpeaker ln_adpcmSpeaker_numbers ln_wideSpeaker ln_wideSpeaker_low ln_wideSpeaker_low_numbers ln_wideSpeaker_high ln_wideSpeaker_high_numbers ln_wideSpeaker_x c_tape_length f_tape_row c_result_length f_result_row c_ln_kind c_ln_adpcmSpeaker_bits c_ln_adpcmSpeaker_se c_ln_adpcmSpeaker_sz c_ln_adpcmSpeaker_step f_ln_adpcmSpeaker_numbers c_ln_wideSpeaker_secondHeard f_ln_wideSpeaker_low_numbers f_ln_wideSpeaker_high_numbers f_ln_wideSpeaker_x) H locs) => ?_)
    refine lv_if_eq (tgt := 24) hx hb dX6_pack_17 (by decide) (fun h6 => ?_) (fun h6 => ?_)
    · have hf := pq_brt hf h6
      refine lv_iconst (v := (1 : Int32)) hx hb dX6_pack_24 (by decide) ?_
      exact J25 a2 (1 : Int32) c_tape_length c_result_length f_result_row c_ln_adpcmSpeaker_se c_ln_adpcmSpeaker_sz c_ln_adpcmSpeaker_step f_ln_adpcmSpeaker_numbers f_ln_wideSpeaker_low_numbers f_ln_wideSpeaker_high_numbers f_ln_wideSpeaker_x _ _ hh ls (lv_sub hl [1, 3, 0] rfl) hf
    · have hf := pq_brf hf h6
      refine lv_iconst (v := (2 : Int32)) hx hb dX6_pack_20 (by decide) ?_
      refine lv_goto (tgt := 25) hx hb dX6_pack_21 (by decide) ?_
      exact J25 a2 (2 : Int32) c_tape_length c_result_length f_result_row c_ln_adpcmSpeaker_se c_ln_adpcmSpeaker_sz c_ln_adpcmSpeaker_step f_ln_adpcmSpeaker_numbers f_ln_wideSpeaker_low_numbers f_ln_wideSpeaker_high_numbers f_ln_wideSpeaker_x _ _ hh ls (lv_sub hl [1, 3, 0] rfl) hf
set_option maxHeartbeats 4000000 in
set_option maxRecDepth 100000 in
theorem qX6_unpack_o (l : Launch) (D : va_G) (cI cL : ClassId) (th : Nat) (th_lines : Nat) (th_tape : Nat) (th_result : Nat) (a1 : Int32) (a2 : Int32) (a3 : Int32) (res : Int32) (hf : fX6_unpack_o a1 a2 a3 = some res) : pq_CI l yX6_unpack qsX6_unpack 6 148 D cI cL [.ref th, .int a1, .int a2, .int a3] (wX6_unpack_o cI th th_lines th_tape th_result) (wX6_unpack_o cI th th_lines th_tape th_result) res := by
  refine pq_mkI (cc := cX6_unpack) (maxL := 7) (RT := .int) (by decide) rfl (Nat.le_of_ble_eq_true rfl) ?_
  intro p e s m args below meth c Q A C hh hret ls hl
  have hx := C.1
  have hb := C.2.1
  have hml := C.2.2.1
  have hown : s.vm.findClass RX6 = some m.cls := C.2.2.2.1
  have hs : ∀ w ∈ wsL_law, w ∈ qsX6_unpack := fun _ h => List.mem_cons_of_mem _ h
  have htw : ∀ w ∈ wsL_law, w.before args s = true := fun w h => C.2.2.2.2.1 w (hs w h)
  have hl : lv_has ls 7 [(0, .ref th), (1, .int a1), (2, .int a2), (3, .int a3)] := hl
  have kc34 := htw (.constant RX6 34 (-100000)) (pq_m7 _ (List.mem_of_getElem? (i := 3) rfl))
  rw [fX6_unpack_o] at hf
  refine lv_aload_n hx hb dX6_unpack_0 rfl (lv_at hl 0 rfl) ?_
  refine lv_iload_n hx hb dX6_unpack_1 rfl (lv_at hl 1 rfl) ?_
  obtain ⟨u2, hu1, hf⟩ := pq_clx hf
  refine pq_cvQ (n := 1) (As := [.int a1]) C hh (qX6_openLine_o l D cI cL th th_lines th_tape th_result a1 u2 hu1) (gvX6_openLine hs (pq_m7 _ (List.mem_of_getElem? (i := 4) rfl))) rfl (by decide +kernel) ⟨Nat.le_of_ble_eq_true rfl, Nat.le_of_ble_eq_true rfl⟩ 0 5 rfl rfl rfl hl.1 rfl rfl (Nat.le_of_ble_eq_true rfl) dX6_unpack_2 ⟨Nat.zero_le _, Nat.zero_le _⟩ [0] [] [0] rfl rfl (by decide) (by decide) (by decide) rfl (fun H locs (hh : pq_H D A s (wX6_unpack_o cI th th_lines th_tape th_result) H locs) => ?_)
  refine lv_astoreN (lv' := [(4, .null), (0, .ref th), (1, .int a1), (2, .int a2), (3, .int a3)]) hx hb dX6_unpack_5 hl (by decide) rfl (fun ls hl => ?_)
  refine lv_aloadN hx hb dX6_unpack_7 (lv_at hl 0 rfl) ?_
  refine lv_ifnullN (tgt := 23) hx hb dX6_unpack_9 (by decide) ?_
  refine lv_ldc (v := (-100000 : Int32)) hx hb hown kc34 dX6_unpack_23 ?_
  obtain rfl := Option.some.inj hf
  exact hret _ _ _ ls hh dX6_unpack_25 rfl
