set_option maxHeartbeats 4000000 in
set_option maxRecDepth 100000 in
theorem qX4_begin (l : Launch) (D : va_G) (cI cL : ClassId) (th : Nat) (th_adpcmSpeaker : Nat) (th_adpcmSpeaker_numbers : Nat) (th_adpcmHearer : Nat) (th_adpcmHearer_numbers : Nat) (th_wideSpeaker : Nat) (th_wideSpeaker_low : Nat) (th_wideSpeaker_low_numbers : Nat) (th_wideSpeaker_high : Nat) (th_wideSpeaker_high_numbers : Nat) (th_wideSpeaker_x : Nat) (th_wideHearer : Nat) (th_wideHearer_low : Nat) (th_wideHearer_low_numbers : Nat) (th_wideHearer_high : Nat) (th_wideHearer_high_numbers : Nat) (th_wideHearer_x : Nat) (c_kind : Int32) (c_adpcmSpeaker_bits : Int32) (c_adpcmSpeaker_se : Int32) (c_adpcmSpeaker_sz : Int32) (c_adpcmSpeaker_step : Int32) (f_adpcmSpeaker_numbers : Nat → Int32) (c_adpcmHearer_bits : Int32) (c_adpcmHearer_se : Int32) (c_adpcmHearer_sz : Int32) (c_adpcmHearer_step : Int32) (f_adpcmHearer_numbers : Nat → Int32) (c_wideSpeaker_secondHeard : Int32) (f_wideSpeaker_low_numbers : Nat → Int32) (f_wideSpeaker_high_numbers : Nat → Int32) (f_wideSpeaker_x : Nat → Int32) (c_wideHearer_secondHeard : Int32) (f_wideHearer_low_numbers : Nat → Int32) (f_wideHearer_high_numbers : Nat → Int32) (f_wideHearer_x : Nat → Int32) (a1 : Int32) (res : Int32 × Int32 × (Nat → Int32) × Int32 × (Nat → Int32) × Int32 × (Nat → Int32) × (Nat → Int32) × (Nat → Int32) × Int32 × (Nat → Int32) × (Nat → Int32) × (Nat → Int32)) (hf : fX4_begin a1 c_kind c_adpcmSpeaker_bits f_adpcmSpeaker_numbers c_adpcmHearer_bits f_adpcmHearer_numbers c_wideSpeaker_secondHeard f_wideSpeaker_low_numbers f_wideSpeaker_high_numbers f_wideSpeaker_x c_wideHearer_secondHeard f_wideHearer_low_numbers f_wideHearer_high_numbers f_wideHearer_x = some res) : pq_CV l yX4_begin qsX4_begin 2 43 D cI cL [.ref th, .int a1] (wX4_begin cI th th_adpcmSpeaker th_adpcmSpeaker_numbers th_adpcmHearer th_adpcmHearer_numbers th_wideSpeaker th_wideSpeaker_low th_wideSpeaker_low_numbers th_wideSpeaker_high th_wideSpeaker_high_numbers th_wideSpeaker_x th_wideHearer th_wideHearer_low th_wideHearer_low_numbers th_wideHearer_high th_wideHearer_high_numbers th_wideHearer_x c_kind c_adpcmSpeaker_bits c_adpcmSpeaker_se c_adpcmSpeaker_sz c_adpcmSpeaker_step f_adpcmSpeaker_numbers c_adpcmHearer_bits c_adpcmHearer_se c_adpcmHearer_sz c_adpcmHearer_step f_adpcmHearer_numbers c_wideSpeaker_secondHeard f_wideSpeaker_low_numbers f_wideSpeaker_high_numbers f_wideSpeaker_x c_wideHearer_secondHeard f_wideHearer_low_numbers f_wideHearer_high_numbers f_wideHearer_x) (wX4_begin cI th th_adpcmSpeaker th_adpcmSpeaker_numbers th_adpcmHearer th_adpcmHearer_numbers th_wideSpeaker th_wideSpeaker_low th_wideSpeaker_low_numbers th_wideSpeaker_high th_wideSpeaker_high_numbers th_wideSpeaker_x th_wideHearer th_wideHearer_low th_wideHearer_low_numbers th_wideHearer_high th_wideHearer_high_numbers th_wideHearer_x res.1 res.2.1 c_adpcmSpeaker_se c_adpcmSpeaker_sz c_adpcmSpeaker_step res.2.2.1 res.2.2.2.1 c_adpcmHearer_se c_adpcmHearer_sz c_adpcmHearer_step res.2.2.2.2.1 res.2.2.2.2.2.1 res.2.2.2.2.2.2.1 res.2.2.2.2.2.2.2.1 res.2.2.2.2.2.2.2.2.1 res.2.2.2.2.2.2.2.2.2.1 res.2.2.2.2.2.2.2.2.2.2.1 res.2.2.2.2.2.2.2.2.2.2.2.1 res.2.2.2.2.2.2.2.2.2.2.2.2) := by
  refine pq_mkV (cc := cX4_begin) (maxL := 2) (by decide) rfl (Nat.le_of_ble_eq_true rfl) ?_
  intro p e s m args below meth c Q A C hh hret ls hl
  have hx := C.1
  have hb := C.2.1
  have hml := C.2.2.1
  have hown : s.vm.findClass RX4 = some m.cls := C.2.2.2.1
  have hs : ∀ w ∈ wsL_law, w ∈ qsX4_begin := fun _ h => List.mem_cons_of_mem _ h
  have htw : ∀ w ∈ wsL_law, w.before args s = true := fun w h => C.2.2.2.2.1 w (hs w h)
  have hl : lv_has ls 2 [(0, .ref th), (1, .int a1)] := hl
  have i4 : ∀ w ∈ wsX40, w ∈ qsX4_begin := fun w h => hs w (pq_i4 w h)
  have kf12 := htw (.fieldLink RX4 12 "VoiceDesk$Line" "adpcmSpeaker" "LVoiceDesk$Adpcm;") (pq_m2 _ (List.mem_of_getElem? (i := 3) rfl))
  have kf18 := htw (.fieldLink RX4 18 "VoiceDesk$Line" "adpcmHearer" "LVoiceDesk$Adpcm;") (pq_m2 _ (List.mem_of_getElem? (i := 4) rfl))
  have kf24 := htw (.fieldLink RX4 24 "VoiceDesk$Line" "wideSpeaker" "LVoiceDesk$Wideband;") (pq_m2 _ (List.mem_of_getElem? (i := 8) rfl))
  have kf28 := htw (.fieldLink RX4 28 "VoiceDesk$Line" "wideHearer" "LVoiceDesk$Wideband;") (pq_m2 _ (List.mem_of_getElem? (i := 9) rfl))
  have kf32 := htw (.fieldLink RX4 32 "VoiceDesk$Line" "kind" "I") (pq_m2 _ (List.mem_of_getElem? (i := 11) rfl))
  rw [fX4_begin] at hf
  refine lv_aload_n hx hb dX4_begin_0 rfl (lv_at hl 0 rfl) ?_
  refine lv_iload_n hx hb dX4_begin_1 rfl (lv_at hl 1 rfl) ?_
  refine pq_put (ty := .int) (v := .int a1) C hh i4 tyX4 tyX4_ok nmX4 0 3 rfl rfl 4 (by decide) kf32 rfl rfl (by decide +kernel) rfl rfl (Nat.le_of_ble_eq_true rfl) dX4_begin_2 (fun H locs (hh : pq_H D A s (wX4_begin cI th th_adpcmSpeaker th_adpcmSpeaker_numbers th_adpcmHearer th_adpcmHearer_numbers th_wideSpeaker th_wideSpeaker_low th_wideSpeaker_low_numbers th_wideSpeaker_high th_wideSpeaker_high_numbers th_wideSpeaker_x th_wideHearer th_wideHearer_low th_wideHearer_low_numbers th_wideHearer_high th_wideHearer_high_numbers th_wideHearer_x a1 c_adpcmSpeaker_bits c_adpcmSpeaker_se c_adpcmSpeaker_sz c_adpcmSpeaker_step f_adpcmSpeaker_numbers c_adpcmHearer_bits c_adpcmHearer_se c_adpcmHearer_sz c_adpcmHearer_step f_adpcmHearer_numbers c_wideSpeaker_secondHeard f_wideSpeaker_low_numbers f_wideSpeaker_high_numbers f_wideSpeaker_x c_wideHearer_secondHeard f_wideHearer_low_numbers f_wideHearer_high_numbers f_wideHearer_x) H locs) => ?_)
  refine lv_aload_n hx hb dX4_begin_5 rfl (lv_at hl 0 rfl) ?_
  obtain ⟨r1, hu2, hf⟩ := pq_clx hf
  refine pq_cvI (n := 0) (As := []) C hh (qX4_isAdpcm l D cI cL th th_adpcmSpeaker th_adpcmHearer th_wideSpeaker th_wideHearer a1 r1 hu2) (gvX4_isAdpcm hs (pq_m5 _ (List.mem_of_getElem? (i := 16) rfl))) rfl (by decide +kernel) ⟨Nat.le_of_ble_eq_true rfl, Nat.le_of_ble_eq_true rfl⟩ 0 3 rfl rfl rfl hl.1 rfl rfl (Nat.le_of_ble_eq_true rfl) dX4_begin_6 ⟨Nat.zero_le _, Nat.zero_le _⟩ [0] [1, 2, 3, 4, 5, 6, 7, 8, 9, 10, 11, 12, 13, 14, 15, 16] [16, 0, 1, 2, 3, 4, 5, 6, 7, 8, 9, 10, 11, 12, 13, 14, 15] rfl rfl (by decide) (by decide) (by decide) rfl (fun H locs (hh : pq_H D A s (wX4_begin cI th th_adpcmSpeaker th_adpcmSpeaker_numbers th_adpcmHearer th_adpcmHearer_numbers th_wideSpeaker th_wideSpeaker_low th_wideSpeaker_low_numbers th_wideSpeaker_high th_wideSpeaker_high_numbers th_wideSpeaker_x th_wideHearer th_wideHearer_low th_wideHearer_low_numbers th_wideHearer_high th_wideHearer_high_numbers th_wideHearer_x a1 c_adpcmSpeaker_bits c_adpcmSpeaker_se c_adpcmSpeaker_sz c_adpcmSpeaker_step f_adpcmSpeaker_numbers c_adpcmHearer_bits c_adpcmHearer_se c_adpcmHearer_sz c_adpcmHearer_step f_adpcmHearer_numbers c_wideSpeaker_secondHeard f_wideSpeaker_low_numbers f_wideSpeaker_high_numbers f_wideSpeaker_x c_wideHearer_secondHeard f_wideHearer_low_numbers f_wideHearer_high_numbers f_wideHearer_x) H locs) => ?_)
  refine lv_if_eq (tgt := 31) hx hb dX4_begin_9 (by decide) (fun h3 => ?_) (fun h3 => ?_)
  · have hf := pq_brt hf h3
    refine lv_aload_n hx hb dX4_begin_31 rfl (lv_at hl 0 rfl) ?_
    obtain ⟨r4, hu5, hf⟩ := pq_clx hf
    refine pq_cvI (n := 0) (As := []) C hh (qX4_isWide l D cI cL th th_adpcmSpeaker th_adpcmHearer th_wideSpeaker th_wideHearer a1 r4 hu5) (gvX4_isWide hs (pq_m6 _ (List.mem_of_getElem? (i := 1) rfl))) rfl (by decide +kernel) ⟨Nat.le_of_ble_eq_true rfl, Nat.le_of_ble_eq_true rfl⟩ 0 3 rfl rfl rfl hl.1 rfl rfl (Nat.le_of_ble_eq_true rfl) dX4_begin_32 ⟨Nat.zero_le _, Nat.zero_le _⟩ [0] [1, 2, 3, 4, 5, 6, 7, 8, 9, 10, 11, 12, 13, 14, 15, 16] [16, 0, 1, 2, 3, 4, 5, 6, 7, 8, 9, 10, 11, 12, 13, 14, 15] rfl rfl (by decide) (by decide) (by decide) rfl (fun H locs (hh : pq_H D A s (wX4_begin cI th th_adpcmSpeaker th_adpcmSpeaker_numbers th_adpcmHearer th_adpcmHearer_numbers th_wideSpeaker th_wideSpeaker_low th_wideSpeaker_low_numbers th_wideSpeaker_high th_wideSpeaker_high_numbers th_wideSpeaker_x th_wideHearer th_wideHearer_low th_wideHearer_low_numbers th_wideHearer_high th_wideHearer_high_numbers th_wideHearer_x a1 c_adpcmSpeaker_bits c_adpcmSpeaker_se c_adpcmSpeaker_sz c_adpcmSpeaker_step f_adpcmSpeaker_numbers c_adpcmHearer_bits c_adpcmHearer_se c_adpcmHearer_sz c_adpcmHearer_step f_adpcmHearer_numbers c_wideSpeaker_secondHeard f_wideSpeaker_low_numbers f_wideSpeaker_high_numbers f_wideSpeaker_x c_wideHearer_secondHeard f_wideHearer_low_numbers f_wideHearer_high_numbers f_wideHearer_x) H locs) => ?_)
    refine lv_if_eq (tgt := 52) hx hb dX4_begin_35 (by decide) (fun h6 => ?_) (fun h6 => ?_)
    · have hf := pq_brt hf h6
      obtain rfl := Option.some.inj hf
      exact hret _ _ _ ls hh dX4_begin_52
    · have hf := pq_brf hf h6
      refine lv_aload_n hx hb dX4_begin_38 rfl (lv_at hl 0 rfl) ?_
      refine pq_get C hh i4 0 3 rfl rfl 2 (by decide) kf24 rfl rfl dX4_begin_39 ?_
      obtain ⟨⟨c7, f8, f9, f10⟩, hu11, hf⟩ := pq_clx hf
      have hf := pq_nmx hf c7 rfl
      have hf := pq_nmx hf f8 rfl
      have hf := pq_nmx hf f9 rfl
      have hf := pq_nmx hf f10 rfl
      refine pq_cvV (n := 0) (As := []) C hh (qX5_begin l D cI cL th_wideSpeaker th_wideSpeaker_low th_wideSpeaker_low_numbers th_wideSpeaker_high th_wideSpeaker_high_numbers th_wideSpeaker_x c_wideSpeaker_secondHeard f_wideSpeaker_low_numbers f_wideSpeaker_high_numbers f_wideSpeaker_x (c7, f8, f9, f10) hu11) (gvX5_begin hs (pq_m6 _ (List.mem_of_getElem? (i := 5) rfl))) rfl (by decide +kernel) ⟨Nat.le_of_ble_eq_true rfl, Nat.le_of_ble_eq_true rfl⟩ 5 4 rfl rfl rfl hl.1 rfl rfl (Nat.le_of_ble_eq_true rfl) dX4_begin_42 ⟨Nat.zero_le _, Nat.zero_le _⟩ [5, 6, 7, 8, 9, 10] [0, 1, 2, 3, 4, 11, 12, 13, 14, 15, 16] [0, 1, 2, 3, 4, 11, 12, 13, 14, 15, 16, 5, 6, 7, 8, 9, 10] rfl rfl (by decide) (by decide) (by decide) rfl (fun H locs (hh : pq_H D A s (wX4_begin cI th th_adpcmSpeaker th_adpcmSpeaker_numbers th_adpcmHearer th_adpcmHearer_numbers th_wideSpeaker th_wideSpeaker_low th_wideSpeaker_low_numbers th_wideSpeaker_high th_wideSpeaker_high_numbers th_wideSpeaker_x th_wideHearer th_wideHearer_low th_wideHearer_low_numbers th_wideHearer_high th_wideHearer_high_numbers th_wideHearer_x a1 c_adpcmSpeaker_bits c_adpcmSpeaker_se c_adpcmSpeaker_sz c_adpcmSpeaker_step f_adpcmSpeaker_numbers c_adpcmHearer_bits c_adpcmHearer_se c_adpcmHearer_sz c_adpcmHearer_step f_adpcmHearer_numbers c7 f8 f9 f10 c_wideHearer_secondHeard f_wideHearer_low_numbers f_wideHearer_high_numbers f_wideHearer_x) H locs) => ?_)
      refine lv_aload_n hx hb dX4_begin_45 rfl (lv_at hl 0 rfl) ?_
      refine pq_get C hh i4 0 3 rfl rfl 3 (by decide) kf28 rfl rfl dX4_begin_46 ?_
      obtain ⟨⟨c13, f14, f15, f16⟩, hu17, hf⟩ := pq_clx hf
      have hf := pq_nmx hf c13 rfl
      have hf := pq_nmx hf f14 rfl
      have hf := pq_nmx hf f15 rfl
      have hf := pq_nmx hf f16 rfl
      refine pq_cvV (n := 0) (As := []) C hh (qX5_begin l D cI cL th_wideHearer th_wideHearer_low th_wideHearer_low_numbers th_wideHearer_high th_wideHearer_high_numbers th_wideHearer_x c_wideHearer_secondHeard f_wideHearer_low_numbers f_wideHearer_high_numbers f_wideHearer_x (c13, f14, f15, f16) hu17) (gvX5_begin hs (pq_m6 _ (List.mem_of_getElem? (i := 5) rfl))) rfl (by decide +kernel) ⟨Nat.le_of_ble_eq_true rfl, Nat.le_of_ble_eq_true rfl⟩ 11 4 rfl rfl rfl hl.1 rfl rfl (Nat.le_of_ble_eq_true rfl) dX4_begin_49 ⟨Nat.zero_le _, Nat.zero_le _⟩ [11, 12, 13, 14, 15, 16] [0, 1, 2, 3, 4, 5, 6, 7, 8, 9, 10] [0, 1, 2, 3, 4, 5, 6, 7, 8, 9, 10, 11, 12, 13, 14, 15, 16] rfl rfl (by decide) (by decide) (by decide) rfl (fun H locs (hh : pq_H D A s (wX4_begin cI th th_adpcmSpeaker th_adpcmSpeaker_numbers th_adpcmHearer th_adpcmHearer_numbers th_wideSpeaker th_wideSpeaker_low th_wideSpeaker_low_numbers th_wideSpeaker_high th_wideSpeaker_high_numbers th_wideSpeaker_x th_wideHearer th_wideHearer_low th_wideHearer_low_numbers th_wideHearer_high th_wideHearer_high_numbers th_wideHearer_x a1 c_adpcmSpeaker_bits c_adpcmSpeaker_se c_adpcmSpeaker_sz c_adpcmSpeaker_step f_adpcmSpeaker_numbers c_adpcmHearer_bits c_adpcmHearer_se c_adpcmHearer_sz c_adpcmHearer_step f_adpcmHearer_numbers c7 f8 f9 f10 c13 f14 f15 f16) H locs) => ?_)
      obtain rfl := Option.some.inj hf
      exact hret _ _ _ ls hh dX4_begin_52
  · have hf := pq_brf hf h3
    refine lv_aload_n hx hb dX4_begin_12 rfl (lv_at hl 0 rfl) ?_
    refine pq_get C hh i4 0 3 rfl rfl 0 (by decide) kf12 rfl rfl dX4_begin_13 ?_
    refine lv_iload_n hx hb dX4_begin_16 rfl (lv_at hl 1 rfl) ?_
    obtain ⟨⟨c19, f20⟩, hu21, hf⟩ := pq_clx hf
    have hf := pq_nmx hf c19 rfl
    have hf := pq_nmx hf f20 rfl
    refine pq_cvV (n := 1) (As := [.int a1]) C hh (qX0_begin l D cI cL th_adpcmSpeaker th_adpcmSpeaker_numbers c_adpcmSpeaker_bits c_adpcmSpeaker_se c_adpcmSpeaker_sz c_adpcmSpeaker_step f_adpcmSpeaker_numbers a1 (c19, f20) hu21) (gvX0_begin hs (pq_m5 _ (List.mem_of_getElem? (i := 20) rfl))) rfl (by decide +kernel) ⟨Nat.le_of_ble_eq_true rfl, Nat.le_of_ble_eq_true rfl⟩ 1 0 rfl rfl rfl hl.1 rfl rfl (Nat.le_of_ble_eq_true rfl) dX4_begin_17 ⟨Nat.zero_le _, Nat.zero_le _⟩ [1, 2] [0, 3, 4, 5, 6, 7, 8, 9, 10, 11, 12, 13, 14, 15, 16] [0, 15, 16, 1, 2, 3, 4, 5, 6, 7, 8, 9, 10, 11, 12, 13, 14] rfl rfl (by decide) (by decide) (by decide) rfl (fun H locs (hh : pq_H D A s (wX4_begin cI th th_adpcmSpeaker th_adpcmSpeaker_numbers th_adpcmHearer th_adpcmHearer_numbers th_wideSpeaker th_wideSpeaker_low th_wideSpeaker_low_numbers th_wideSpeaker_high th_wideSpeaker_high_numbers th_wideSpeaker_x th_wideHearer th_wideHearer_low th_wideHearer_low_numbers th_wideHearer_high th_wideHearer_high_numbers th_wideHearer_x a1 c19 c_adpcmSpeaker_se c_adpcmSpeaker_sz c_adpcmSpeaker_step f20 c_adpcmHearer_bits c_adpcmHearer_se c_adpcmHearer_sz c_adpcmHearer_step f_adpcmHearer_numbers c_wideSpeaker_secondHeard f_wideSpeaker_low_numbers f_wideSpeaker_high_numbers f_wideSpeaker_x c_wideHearer_secondHeard f_wideHearer_low_numbers f_wideHearer_high_numbers f_wideHearer_x) H locs) => ?_)
    refine lv_aload_n hx hb dX4_begin_20 rfl (lv_at hl 0 rfl) ?_
    refine pq_get C hh i4 0 3 rfl rfl 1 (by decide) kf18 rfl rfl dX4_begin_21 ?_
    refine lv_iload_n hx hb dX4_begin_24 rfl (lv_at hl 1 rfl) ?_
    obtain ⟨⟨c23, f24⟩, hu25, hf⟩ := pq_clx hf
    have hf := pq_nmx hf c23 rfl
    have hf := pq_nmx hf f24 rfl
    refine pq_cvV (n := 1) (As := [.int a1]) C hh (qX0_begin l D cI cL th_adpcmHearer th_adpcmHearer_numbers c_adpcmHearer_bits c_adpcmHearer_se c_adpcmHearer_sz c_adpcmHearer_step f_adpcmHearer_numbers a1 (c23, f24) hu25) (gvX0_begin hs (pq_m5 _ (List.mem_of_getElem? (i := 20) rfl))) rfl (by decide +kernel) ⟨Nat.le_of_ble_eq_true rfl, Nat.le_of_ble_eq_true rfl⟩ 3 0 rfl rfl rfl hl.1 rfl rfl (Nat.le_of_ble_eq_true rfl) dX4_begin_25 ⟨Nat.zero_le _, Nat.zero_le _⟩ [3, 4] [0, 1, 2, 5, 6, 7, 8, 9, 10, 11, 12, 13, 14, 15, 16] [0, 1, 2, 15, 16, 3, 4, 5, 6, 7, 8, 9, 10, 11, 12, 13, 14] rfl rfl (by decide) (by decide) (by decide) rfl (fun H locs (hh : pq_H D A s (wX4_begin cI th th_adpcmSpeaker th_adpcmSpeaker_numbers th_adpcmHearer th_adpcmHearer_numbers th_wideSpeaker th_wideSpeaker_low th_wideSpeaker_low_numbers th_wideSpeaker_high th_wideSpeaker_high_numbers th_wideSpeaker_x th_wideHearer th_wideHearer_low th_wideHearer_low_numbers th_wideHearer_high th_wideHearer_high_numbers th_wideHearer_x a1 c19 c_adpcmSpeaker_se c_adpcmSpeaker_sz c_adpcmSpeaker_step f20 c23 c_adpcmHearer_se c_adpcmHearer_sz c_adpcmHearer_step f24 c_wideSpeaker_secondHeard f_wideSpeaker_low_numbers f_wideSpeaker_high_numbers f_wideSpeaker_x c_wideHearer_secondHeard f_wideHearer_low_numbers f_wideHearer_high_numbers f_wideHearer_x) H locs) => ?_)
    refine lv_goto (tgt := 52) hx hb dX4_begin_28 (by decide) ?_
    obtain rfl := Option.some.inj hf
    exact hret _ _ _ ls hh dX4_begin_52
set_option maxHeartbeats 4000000 in
set_option maxRecDepth 100000 in
theorem qX4_codeBits (l : Launch) (D : va_G) (cI cL : ClassId) (th : Nat) (th_adpcmSpeaker : Nat) (th_adpcmHearer : Nat) (th_wideSpeaker : Nat) (th_wideHearer : Nat) (c_kind : Int32) (res : Int32) (hf : fX4_codeBits c_kind = some res) : pq_CI l yX4_codeBits qsX4_codeBits 1 20 D cI cL [.ref th] (wX4_codeBits cI th th_adpcmSpeaker th_adpcmHearer th_wideSpeaker th_wideHearer c_kind) (wX4_codeBits cI th th_adpcmSpeaker th_adpcmHearer th_wideSpeaker th_wideHearer c_kind) res := by
  refine pq_mkI (cc := cX4_codeBits) (maxL := 1) (RT := .int) (by decide) rfl (Nat.le_of_ble_eq_true rfl) ?_
  intro p e s m args below meth c Q A C hh hret ls hl
  have hx := C.1
  have hb := C.2.1
  have hml := C.2.2.1
  have hown : s.vm.findClass RX4 = some m.cls := C.2.2.2.1
  have hs : ∀ w ∈ wsL_law, w ∈ qsX4_codeBits := fun _ h => List.mem_cons_of_mem _ h
  have htw : ∀ w ∈ wsL_law, w.before args s = true := fun w h => C.2.2.2.2.1 w (hs w h)
  have hl : lv_has ls 1 [(0, .ref th)] := hl
  have i4 : ∀ w ∈ wsX40, w ∈ qsX4_codeBits := fun w h => hs w (pq_i4 w h)
  have kf32 := htw (.fieldLink RX4 32 "VoiceDesk$Line" "kind" "I") (pq_m2 _ (List.mem_of_getElem? (i := 11) rfl))
  rw [fX4_codeBits] at hf
  refine lv_aload_n hx hb dX4_codeBits_0 rfl (lv_at hl 0 rfl) ?_
  obtain ⟨r1, hu2, hf⟩ := pq_clx hf
  refine pq_cvI (n := 0) (As := []) C hh (qX4_isAdpcm l D cI cL th th_adpcmSpeaker th_adpcmHearer th_wideSpeaker th_wideHearer c_kind r1 hu2) (gvX4_isAdpcm hs (pq_m5 _ (List.mem_of_getElem? (i := 16) rfl))) rfl (by decide +kernel) ⟨Nat.le_of_ble_eq_true rfl, Nat.le_of_ble_eq_true rfl⟩ 0 3 rfl rfl rfl hl.1 rfl rfl (Nat.le_of_ble_eq_true rfl) dX4_codeBits_1 ⟨Nat.zero_le _, Nat.zero_le _⟩ [0] [] [0] rfl rfl (by decide) (by decide) (by decide) rfl (fun H locs (hh : pq_H D A s (wX4_codeBits cI th th_adpcmSpeaker th_adpcmHearer th_wideSpeaker th_wideHearer c_kind) H locs) => ?_)
  refine lv_if_eq (tgt := 14) hx hb dX4_codeBits_4 (by decide) (fun h3 => ?_) (fun h3 => ?_)
  · have hf := pq_brt hf h3
    refine lv_bipush (v := (8 : Int32)) hx hb dX4_codeBits_14 (by decide) ?_
    obtain rfl := Option.some.inj hf
    exact hret _ _ _ ls hh dX4_codeBits_16 rfl
  · have hf := pq_brf hf h3
    refine lv_aload_n hx hb dX4_codeBits_7 rfl (lv_at hl 0 rfl) ?_
    refine pq_get C hh i4 0 3 rfl rfl 4 (by decide) kf32 rfl rfl dX4_codeBits_8 ?_
    refine lv_goto (tgt := 16) hx hb dX4_codeBits_11 (by decide) ?_
    obtain rfl := Option.some.inj hf
    exact hret _ _ _ ls hh dX4_codeBits_16 rfl
set_option maxHeartbeats 4000000 in
set_option maxRecDepth 100000 in
theorem qX4_hasCode (l : Launch) (D : va_G) (cI cL : ClassId) (th : Nat) (th_adpcmSpeaker : Nat) (th_adpcmHearer : Nat) (th_wideSpeaker : Nat) (th_wideHearer : Nat) (c_kind : Int32) (a1 : Int32) (res : Int32) (hf : fX4_hasCode a1 c_kind = some res) : pq_CI l yX4_hasCode qsX4_hasCode 2 40 D cI cL [.ref th, .int a1] (wX4_hasCode cI th th_adpcmSpeaker th_adpcmHearer th_wideSpeaker th_wideHearer c_kind) (wX4_hasCode cI th th_adpcmSpeaker th_adpcmHearer th_wideSpeaker th_wideHearer c_kind) res := by
  refine pq_mkI (cc := cX4_hasCode) (maxL := 2) (RT := .boolean) (by decide) rfl (Nat.le_of_ble_eq_true rfl) ?_
  intro p e s m args below meth c Q A C hh hret ls hl
  have hx := C.1
  have hb := C.2.1
  have hml := C.2.2.1
  have hown : s.vm.findClass RX4 = some m.cls := C.2.2.2.1
  have hs : ∀ w ∈ wsL_law, w ∈ qsX4_hasCode := fun _ h => List.mem_cons_of_mem _ h
  have htw : ∀ w ∈ wsL_law, w.before args s = true := fun w h => C.2.2.2.2.1 w (hs w h)
  have hl : lv_has ls 2 [(0, .ref th), (1, .int a1)] := hl
  rw [fX4_hasCode] at hf
  refine lv_iload_n hx hb dX4_hasCode_0 rfl (lv_at hl 1 rfl) ?_
  refine lv_if_lt (tgt := 18) hx hb dX4_hasCode_1 (by decide) (fun h1 => ?_) (fun h1 => ?_)
  · have hf := pq_brt hf h1
    refine lv_iconst (v := (0 : Int32)) hx hb dX4_hasCode_18 (by decide) ?_
    obtain rfl := Option.some.inj hf
    exact hret _ _ _ ls hh dX4_hasCode_19 (pq_nb0 rfl)
  · have hf := pq_brf hf h1
    refine lv_iload_n hx hb dX4_hasCode_4 rfl (lv_at hl 1 rfl) ?_
    refine lv_iconst (v := (1 : Int32)) hx hb dX4_hasCode_5 (by decide) ?_
    refine lv_aload_n hx hb dX4_hasCode_6 rfl (lv_at hl 0 rfl) ?_
    obtain ⟨r2, hu3, hf⟩ := pq_clx hf
    refine pq_cvI (n := 0) (As := []) C hh (qX4_codeBits l D cI cL th th_adpcmSpeaker th_adpcmHearer th_wideSpeaker th_wideHearer c_kind r2 hu3) (gvX4_codeBits hs (pq_m21 _ (List.mem_of_getElem? (i := 5) rfl))) rfl (by decide +kernel) ⟨Nat.le_of_ble_eq_true rfl, Nat.le_of_ble_eq_true rfl⟩ 0 3 rfl rfl rfl hl.1 rfl rfl (Nat.le_of_ble_eq_true rfl) dX4_hasCode_7 ⟨Nat.zero_le _, Nat.zero_le _⟩ [0] [] [0] rfl rfl (by decide) (by decide) (by decide) rfl (fun H locs (hh : pq_H D A s (wX4_hasCode cI th th_adpcmSpeaker th_adpcmHearer th_wideSpeaker th_wideHearer c_kind) H locs) => ?_)
    refine lv_ishl hx hb dX4_hasCode_10 ?_
    refine lv_icmp_ge (tgt := 18) hx hb dX4_hasCode_11 (by decide) (fun h4 => ?_) (fun h4 => ?_)
    · have hf := pq_brt hf h4
      refine lv_iconst (v := (0 : Int32)) hx hb dX4_hasCode_18 (by decide) ?_
      obtain rfl := Option.some.inj hf
      exact hret _ _ _ ls hh dX4_hasCode_19 (pq_nb0 rfl)
    · have hf := pq_brf hf h4
      refine lv_iconst (v := (1 : Int32)) hx hb dX4_hasCode_14 (by decide) ?_
      refine lv_goto (tgt := 19) hx hb dX4_hasCode_15 (by decide) ?_
      obtain rfl := Option.some.inj hf
      exact hret _ _ _ ls hh dX4_hasCode_19 (pq_nb1 rfl)
set_option maxHeartbeats 4000000 in
set_option maxRecDepth 100000 in
theorem qX5_push (l : Launch) (D : va_G) (cI cL : ClassId) (th : Nat) (th_low : Nat) (th_high : Nat) (th_x : Nat) (c_secondHeard : Int32) (f_x : Nat → Int32) (a1 : Int32) (a2 : Int32) (res : (Nat → Int32)) (hf : fX5_push a1 a2 f_x = some res) : pq_CV l yX5_push qsX5_push 0 0 D cI cL [.ref th, .int a1, .int a2] (wX5_push cI th th_low th_high th_x c_secondHeard f_x) (wX5_push cI th th_low th_high th_x c_secondHeard res) := by
  refine pq_mkV (cc := cX5_push) (maxL := 4) (by decide) rfl (Nat.le_of_ble_eq_true rfl) ?_
  intro p e s m args below meth c Q A C hh hret ls hl
  have hx := C.1
  have hb := C.2.1
  have hml := C.2.2.1
  have hown : s.vm.findClass RX5 = some m.cls := C.2.2.2.1
  have hs : ∀ w ∈ wsL_law, w ∈ qsX5_push := fun _ h => List.mem_cons_of_mem _ h
  have htw : ∀ w ∈ wsL_law, w.before args s = true := fun w h => C.2.2.2.2.1 w (hs w h)
  have hl : lv_has ls 4 [(0, .ref th), (1, .int a1), (2, .int a2)] := hl
  have i5 : ∀ w ∈ wsX50, w ∈ qsX5_push := fun w h => hs w (pq_i5 w h)
  have kf21 := htw (.fieldLink RX5 21 "VoiceDesk$Wideband" "x" "[I") (pq_m3 _ (List.mem_of_getElem? (i := 5) rfl))
  have J2 : ∀ (fuel2 : Nat) (x1 : Int32) (x2 : Int32) (x3 : Int32) (f_x : Nat → Int32) (H : Heap) (locs : List Loc), pq_H D A s (wX5_push cI th th_low th_high th_x c_secondHeard f_x) H locs → ∀ ls : Array Slot, lv_has ls 4 [(0, .ref th), (1, .int x1), (2, .int x2), (3, .int x3)] → fX5_push_b2   fuel2 x1 x2 x3 f_x = some res → W p l e (pq_rm 0 0) s m args below meth c H locs 0 0 Q (F0 m 2 ls []) := by
    intro fuel2
    induction fuel2 with
    | zero => intro x1 x2 x3 f_x H locs hh ls hl hf; rw [fX5_push_b2] at hf; cases hf
    | succ fuel2 ih2 =>
      intro x1 x2 x3 f_x H locs hh ls hl hf
      rw [fX5_push_b2] at hf
      refine lv_iload_n hx hb dX5_push_2 rfl (lv_at hl 3 rfl) ?_
      refine lv_bipush (v := (22 : Int32)) hx hb dX5_push_3 (by decide) ?_
      refine lv_icmp_ge (tgt := 28) hx hb dX5_push_5 (by decide) (fun h1 => ?_) (fun h1 => ?_)
      · have hf := pq_brt hf h1
        refine lv_aload_n hx hb dX5_push_28 rfl (lv_at hl 0 rfl) ?_
        refine pq_get C hh i5 0 4 rfl rfl 2 (by decide) kf21 rfl rfl dX5_push_29 ?_
        refine lv_bipush (v := (22 : Int32)) hx hb dX5_push_32 (by decide) ?_
        refine lv_iload_n hx hb dX5_push_34 rfl (lv_at hl 1 rfl) ?_
        obtain ⟨h2, hf⟩ := pq_wrx hf
        refine pq_iast C hh 1 rfl h2 dX5_push_35 (fun H locs f3 e4 (hh : pq_H D A s (wX5_push cI th th_low th_high th_x c_secondHeard f3) H locs) => ?_)
        have hf := hf f3 e4
        refine lv_aload_n hx hb dX5_push_36 rfl (lv_at hl 0 rfl) ?_
        refine pq_get C hh i5 0 4 rfl rfl 2 (by decide) kf21 rfl rfl dX5_push_37 ?_
        refine lv_bipush (v := (23 : Int32)) hx hb dX5_push_40 (by decide) ?_
        refine lv_iload_n hx hb dX5_push_42 rfl (lv_at hl 2 rfl) ?_
        obtain ⟨h5, hf⟩ := pq_wrx hf
        refine pq_iast C hh 1 rfl h5 dX5_push_43 (fun H locs f6 e7 (hh : pq_H D A s (wX5_push cI th th_low th_high th_x c_secondHeard f6) H locs) => ?_)
        have hf := hf f6 e7
        obtain rfl := Option.some.inj hf
        exact hret _ _ _ ls hh dX5_push_44
      · have hf := pq_brf hf h1
        refine lv_aload_n hx hb dX5_push_8 rfl (lv_at hl 0 rfl) ?_
        refine pq_get C hh i5 0 4 rfl rfl 2 (by decide) kf21 rfl rfl dX5_push_9 ?_
        refine lv_iload_n hx hb dX5_push_12 rfl (lv_at hl 3 rfl) ?_
        refine lv_aload_n hx hb dX5_push_13 rfl (lv_at hl 0 rfl) ?_
        refine pq_get C hh i5 0 4 rfl rfl 2 (by decide) kf21 rfl rfl dX5_push_14 ?_
        refine lv_iload_n hx hb dX5_push_17 rfl (lv_at hl 3 rfl) ?_
        refine lv_iconst (v := (2 : Int32)) hx hb dX5_push_18 (by decide) ?_
        refine lv_iadd hx hb dX5_push_19 ?_
        obtain ⟨h8, hf⟩ := pq_rdx hf
        refine pq_iald C hh 1 rfl h8 dX5_push_20 (fun v9 e10 => ?_)
        have hf := hf v9 e10
        obtain ⟨h11, hf⟩ := pq_wrx hf
        refine pq_iast C hh 1 rfl h11 dX5_push_21 (fun H locs f12 e13 (hh : pq_H D A s (wX5_push cI th th_low th_high th_x c_secondHeard f12) H locs) => ?_)
        have hf := hf f12 e13
        obtain ⟨v14, e15⟩ : ∃ y : Int32, y = x3 + (1 : Int32) := ⟨_, rfl⟩
        refine lv_iinc (v := v14) (lv' := [(3, .int v14), (0, .ref th), (1, .int x1), (2, .int x2)]) hx hb dX5_push_22 hl (k := 3) rfl (by rw [e15]; rfl) (by decide) rfl (fun ls hl => ?_)
        have hf := pq_nmx hf v14 e15
        refine lv_goto (tgt := 2) hx hb dX5_push_25 (by decide) ?_
        exact ih2 x1 x2 v14 f12 _ _ hh ls (lv_sub hl [1, 2, 3, 0] rfl) hf
  rw [fX5_push] at hf
  refine lv_iconst (v := (0 : Int32)) hx hb dX5_push_0 (by decide) ?_
  refine lv_istore_n (lv' := [(3, .int (0 : Int32)), (0, .ref th), (1, .int a1), (2, .int a2)]) hx hb dX5_push_1 rfl hl (by decide) rfl (fun ls hl => ?_)
  exact J2 1100 a1 a2 (0 : Int32) f_x _ _ hh ls (lv_sub hl [1, 2, 3, 0] rfl) hf
set_option maxHeartbeats 4000000 in
set_option maxRecDepth 100000 in
theorem qX5_evenSum (l : Launch) (D : va_G) (cI cL : ClassId) (th : Nat) (th_low : Nat) (th_high : Nat) (th_x : Nat) (c_secondHeard : Int32) (f_x : Nat → Int32) (res : Int32) (hf : fX5_evenSum f_x = some res) : pq_CI l yX5_evenSum qsX5_evenSum 0 0 D cI cL [.ref th] (wX5_evenSum cI th th_low th_high th_x c_secondHeard f_x) (wX5_evenSum cI th th_low th_high th_x c_secondHeard f_x) res := by
  refine pq_mkI (cc := cX5_evenSum) (maxL := 3) (RT := .int) (by decide) rfl (Nat.le_of_ble_eq_true rfl) ?_
  intro p e s m args below meth c Q A C hh hret ls hl
  have hx := C.1
  have hb := C.2.1
  have hml := C.2.2.1
  have hown : s.vm.findClass RX5 = some m.cls := C.2.2.2.1
  have hs : ∀ w ∈ wsL_law, w ∈ qsX5_evenSum := fun _ h => List.mem_cons_of_mem _ h
  have htw : ∀ w ∈ wsL_law, w.before args s = true := fun w h => C.2.2.2.2.1 w (hs w h)
  have hl : lv_has ls 3 [(0, .ref th)] := hl
  have i5 : ∀ w ∈ wsX50, w ∈ qsX5_evenSum := fun w h => hs w (pq_i5 w h)
  have kf21 := htw (.fieldLink RX5 21 "VoiceDesk$Wideband" "x" "[I") (pq_m3 _ (List.mem_of_getElem? (i := 5) rfl))
  have kf74 := htw (.fieldLink RX5 74 "VoiceDesk$Wideband" "COEFFICIENTS" "[I") (pq_m8 _ (List.mem_of_getElem? (i := 12) rfl))
  obtain ⟨t0, z0, T0⟩ := pq_tab C 0 rfl
  have J4 : ∀ (fuel4 : Nat) (x1 : Int32) (x2 : Int32) (H : Heap) (locs : List Loc), pq_H D A s (wX5_evenSum cI th th_low th_high th_x c_secondHeard f_x) H locs → ∀ ls : Array Slot, lv_has ls 3 [(0, .ref th), (1, .int x1), (2, .int x2)] → fX5_evenSum_b4  f_x fuel4 x1 x2 = some res → W p l e (pq_rm 0 0) s m args below meth c H locs 0 0 Q (F0 m 4 ls []) := by
    intro fuel4
    induction fuel4 with
    | zero => intro x1 x2 H locs hh ls hl hf; rw [fX5_evenSum_b4] at hf; cases hf
    | succ fuel4 ih4 =>
      intro x1 x2 H locs hh ls hl hf
      rw [fX5_evenSum_b4] at hf
      refine lv_iload_n hx hb dX5_evenSum_4 rfl (lv_at hl 2 rfl) ?_
      refine lv_bipush (v := (12 : Int32)) hx hb dX5_evenSum_5 (by decide) ?_
      refine lv_icmp_ge (tgt := 33) hx hb dX5_evenSum_7 (by decide) (fun h1 => ?_) (fun h1 => ?_)
      · have hf := pq_brt hf h1
        refine lv_iload_n hx hb dX5_evenSum_33 rfl (lv_at hl 1 rfl) ?_
        obtain rfl := Option.some.inj hf
        exact hret _ _ _ ls hh dX5_evenSum_34 rfl
      · have hf := pq_brf hf h1
        refine lv_iload_n hx hb dX5_evenSum_10 rfl (lv_at hl 1 rfl) ?_
        refine lv_aload_n hx hb dX5_evenSum_11 rfl (lv_at hl 0 rfl) ?_
        refine pq_get C hh i5 0 4 rfl rfl 2 (by decide) kf21 rfl rfl dX5_evenSum_12 ?_
        refine lv_iconst (v := (2 : Int32)) hx hb dX5_evenSum_15 (by decide) ?_
        refine lv_iload_n hx hb dX5_evenSum_16 rfl (lv_at hl 2 rfl) ?_
        refine lv_imul hx hb dX5_evenSum_17 ?_
        obtain ⟨h2, hf⟩ := pq_rdx hf
        refine pq_iald C hh 1 rfl h2 dX5_evenSum_18 (fun v3 e4 => ?_)
        have hf := hf v3 e4
        refine pq_gets C hh z0 kf74 dX5_evenSum_19 ?_
        refine lv_iload_n hx hb dX5_evenSum_22 rfl (lv_at hl 2 rfl) ?_
        obtain ⟨h5, hf⟩ := pq_rdx hf
        refine pq_ti C hh T0 h5 dX5_evenSum_23 (fun v6 e7 => ?_)
        have hf := hf v6 e7
        refine lv_imul hx hb dX5_evenSum_24 ?_
        refine lv_iadd hx hb dX5_evenSum_25 ?_
        refine lv_topi (fun v8 e9 => ?_)
        have hf := pq_nmx hf v8 e9
        refine lv_istore_n (lv' := [(1, .int v8), (0, .ref th), (2, .int x2)]) hx hb dX5_evenSum_26 rfl hl (by decide) rfl (fun ls hl => ?_)
        obtain ⟨v10, e11⟩ : ∃ y : Int32, y = x2 + (1 : Int32) := ⟨_, rfl⟩
        refine lv_iinc (v := v10) (lv' := [(2, .int v10), (1, .int v8), (0, .ref th)]) hx hb dX5_evenSum_27 hl (k := 2) rfl (by rw [e11]; rfl) (by decide) rfl (fun ls hl => ?_)
        have hf := pq_nmx hf v10 e11
        refine lv_goto (tgt := 4) hx hb dX5_evenSum_30 (by decide) ?_
        exact ih4 v8 v10 _ _ hh ls (lv_sub hl [2, 1, 0] rfl) hf
  rw [fX5_evenSum] at hf
  refine lv_iconst (v := (0 : Int32)) hx hb dX5_evenSum_0 (by decide) ?_
  refine lv_istore_n (lv' := [(1, .int (0 : Int32)), (0, .ref th)]) hx hb dX5_evenSum_1 rfl hl (by decide) rfl (fun ls hl => ?_)
  refine lv_iconst (v := (0 : Int32)) hx hb dX5_evenSum_2 (by decide) ?_
  refine lv_istore_n (lv' := [(2, .int (0 : Int32)), (1, .int (0 : Int32)), (0, .ref th)]) hx hb dX5_evenSum_3 rfl hl (by decide) rfl (fun ls hl => ?_)
  exact J4 1100 (0 : Int32) (0 : Int32) _ _ hh ls (lv_sub hl [2, 1, 0] rfl) hf
set_option maxHeartbeats 4000000 in
set_option maxRecDepth 100000 in
theorem qX5_oddSum (l : Launch) (D : va_G) (cI cL : ClassId) (th : Nat) (th_low : Nat) (th_high : Nat) (th_x : Nat) (c_secondHeard : Int32) (f_x : Nat → Int32) (res : Int32) (hf : fX5_oddSum f_x = some res) : pq_CI l yX5_oddSum qsX5_oddSum 0 0 D cI cL [.ref th] (wX5_oddSum cI th th_low th_high th_x c_secondHeard f_x) (wX5_oddSum cI th th_low th_high th_x c_secondHeard f_x) res := by
  refine pq_mkI (cc := cX5_oddSum) (maxL := 3) (RT := .int) (by decide) rfl (Nat.le_of_ble_eq_true rfl) ?_
  intro p e s m args below meth c Q A C hh hret ls hl
  have hx := C.1
  have hb := C.2.1
  have hml := C.2.2.1
  have hown : s.vm.findClass RX5 = some m.cls := C.2.2.2.1
  have hs : ∀ w ∈ wsL_law, w ∈ qsX5_oddSum := fun _ h => List.mem_cons_of_mem _ h
  have htw : ∀ w ∈ wsL_law, w.before args s = true := fun w h => C.2.2.2.2.1 w (hs w h)
  have hl : lv_has ls 3 [(0, .ref th)] := hl
  have i5 : ∀ w ∈ wsX50, w ∈ qsX5_oddSum := fun w h => hs w (pq_i5 w h)
  have kf21 := htw (.fieldLink RX5 21 "VoiceDesk$Wideband" "x" "[I") (pq_m3 _ (List.mem_of_getElem? (i := 5) rfl))
  have kf74 := htw (.fieldLink RX5 74 "VoiceDesk$Wideband" "COEFFICIENTS" "[I") (pq_m8 _ (List.mem_of_getElem? (i := 12) rfl))
  obtain ⟨t0, z0, T0⟩ := pq_tab C 0 rfl
  have J4 : ∀ (fuel4 : Nat) (x1 : Int32) (x2 : Int32) (H : Heap) (locs : List Loc), pq_H D A s (wX5_oddSum cI th th_low th_high th_x c_secondHeard f_x) H locs → ∀ ls : Array Slot, lv_has ls 3 [(0, .ref th), (1, .int x1), (2, .int x2)] → fX5_oddSum_b4  f_x fuel4 x1 x2 = some res → W p l e (pq_rm 0 0) s m args below meth c H locs 0 0 Q (F0 m 4 ls []) := by
    intro fuel4
    induction fuel4 with
    | zero => intro x1 x2 H locs hh ls hl hf; rw [fX5_oddSum_b4] at hf; cases hf
    | succ fuel4 ih4 =>
      intro x1 x2 H locs hh ls hl hf
      rw [fX5_oddSum_b4] at hf
      refine lv_iload_n hx hb dX5_oddSum_4 rfl (lv_at hl 2 rfl) ?_
      refine lv_bipush (v := (12 : Int32)) hx hb dX5_oddSum_5 (by decide) ?_
      refine lv_icmp_ge (tgt := 38) hx hb dX5_oddSum_7 (by decide) (fun h1 => ?_) (fun h1 => ?_)
      · have hf := pq_brt hf h1
        refine lv_iload_n hx hb dX5_oddSum_38 rfl (lv_at hl 1 rfl) ?_
        obtain rfl := Option.some.inj hf
        exact hret _ _ _ ls hh dX5_oddSum_39 rfl
      · have hf := pq_brf hf h1
        refine lv_iload_n hx hb dX5_oddSum_10 rfl (lv_at hl 1 rfl) ?_
        refine lv_aload_n hx hb dX5_oddSum_11 rfl (lv_at hl 0 rfl) ?_
        refine pq_get C hh i5 0 4 rfl rfl 2 (by decide) kf21 rfl rfl dX5_oddSum_12 ?_
        refine lv_iconst (v := (2 : Int32)) hx hb dX5_oddSum_15 (by decide) ?_
        refine lv_iload_n hx hb dX5_oddSum_16 rfl (lv_at hl 2 rfl) ?_
        refine lv_imul hx hb dX5_oddSum_17 ?_
        refine lv_iconst (v := (1 : Int32)) hx hb dX5_oddSum_18 (by decide) ?_
        refine lv_iadd hx hb dX5_oddSum_19 ?_
        obtain ⟨h2, hf⟩ := pq_rdx hf
        refine pq_iald C hh 1 rfl h2 dX5_oddSum_20 (fun v3 e4 => ?_)
        have hf := hf v3 e4
        refine pq_gets C hh z0 kf74 dX5_oddSum_21 ?_
        refine lv_bipush (v := (11 : Int32)) hx hb dX5_oddSum_24 (by decide) ?_
        refine lv_iload_n hx hb dX5_oddSum_26 rfl (lv_at hl 2 rfl) ?_
        refine lv_isub hx hb dX5_oddSum_27 ?_
        obtain ⟨h5, hf⟩ := pq_rdx hf
        refine pq_ti C hh T0 h5 dX5_oddSum_28 (fun v6 e7 => ?_)
        have hf := hf v6 e7
        refine lv_imul hx hb dX5_oddSum_29 ?_
        refine lv_iadd hx hb dX5_oddSum_30 ?_
        refine lv_topi (fun v8 e9 => ?_)
        have hf := pq_nmx hf v8 e9
        refine lv_istore_n (lv' := [(1, .int v8), (0, .ref th), (2, .int x2)]) hx hb dX5_oddSum_31 rfl hl (by decide) rfl (fun ls hl => ?_)
        obtain ⟨v10, e11⟩ : ∃ y : Int32, y = x2 + (1 : Int32) := ⟨_, rfl⟩
        refine lv_iinc (v := v10) (lv' := [(2, .int v10), (1, .int v8), (0, .ref th)]) hx hb dX5_oddSum_32 hl (k := 2) rfl (by rw [e11]; rfl) (by decide) rfl (fun ls hl => ?_)
        have hf := pq_nmx hf v10 e11
        refine lv_goto (tgt := 4) hx hb dX5_oddSum_35 (by decide) ?_
        exact ih4 v8 v10 _ _ hh ls (lv_sub hl [2, 1, 0] rfl) hf
  rw [fX5_oddSum] at hf
  refine lv_iconst (v := (0 : Int32)) hx hb dX5_oddSum_0 (by decide) ?_
  refine lv_istore_n (lv' := [(1, .int (0 : Int32)), (0, .ref th)]) hx hb dX5_oddSum_1 rfl hl (by decide) rfl (fun ls hl => ?_)
  refine lv_iconst (v := (0 : Int32)) hx hb dX5_oddSum_2 (by decide) ?_
  refine lv_istore_n (lv' := [(2, .int (0 : Int32)), (1, .int (0 : Int32)), (0, .ref th)]) hx hb dX5_oddSum_3 rfl hl (by decide) rfl (fun ls hl => ?_)
  exact J4 1100 (0 : Int32) (0 : Int32) _ _ hh ls (lv_sub hl [2, 1, 0] rfl) hf
set_option maxHeartbeats 4000000 in
set_option maxRecDepth 100000 in
theorem qX5_lowCode (l : Launch) (D : va_G) (cI cL : ClassId) (th : Nat) (th_high : Nat) (th_x : Nat) (th_low : Nat) (th_low_numbers : Nat) (c_secondHeard : Int32) (f_low_numbers : Nat → Int32) (a1 : Int32) (res : Int32) (hf : fX5_lowCode a1 f_low_numbers = some res) : pq_CI l yX5_lowCode qsX5_lowCode 1 21 D cI cL [.ref th, .int a1] (wX5_lowCode cI th th_high th_x th_low th_low_numbers c_secondHeard f_low_numbers) (wX5_lowCode cI th th_high th_x th_low th_low_numbers c_secondHeard f_low_numbers) res := by
  refine pq_mkI (cc := cX5_lowCode) (maxL := 4) (RT := .int) (by decide) rfl (Nat.le_of_ble_eq_true rfl) ?_
  intro p e s m args below meth c Q A C hh hret ls hl
  have hx := C.1
  have hb := C.2.1
  have hml := C.2.2.1
  have hown : s.vm.findClass RX5 = some m.cls := C.2.2.2.1
  have hs : ∀ w ∈ wsL_law, w ∈ qsX5_lowCode := fun _ h => List.mem_cons_of_mem _ h
  have htw : ∀ w ∈ wsL_law, w.before args s = true := fun w h => C.2.2.2.2.1 w (hs w h)
  have hl : lv_has ls 4 [(0, .ref th), (1, .int a1)] := hl
  have i5 : ∀ w ∈ wsX50, w ∈ qsX5_lowCode := fun w h => hs w (pq_i5 w h)
  have kf12 := htw (.fieldLink RX5 12 "VoiceDesk$Wideband" "low" "LVoiceDesk$Band;") (pq_m3 _ (List.mem_of_getElem? (i := 3) rfl))
  have kf77 := htw (.fieldLink RX5 77 "VoiceDesk$Wideband" "Q" "[I") (pq_m9 _ (List.mem_of_getElem? (i := 3) rfl))
  obtain ⟨t1, z1, T1⟩ := pq_tab C 1 rfl
  have J45 : ∀ (x1 : Int32) (x3 : Int32) (H : Heap) (locs : List Loc), pq_H D A s (wX5_lowCode cI th th_high th_x th_low th_low_numbers c_secondHeard f_low_numbers) H locs → ∀ ls : Array Slot, lv_has ls 4 [(1, .int x1), (3, .int x3)] → fX5_lowCode_b45  f_low_numbers x1 x3 = some res → W p l e (pq_rm 1 21) s m args below meth c H locs 0 0 Q (F0 m 45 ls []) := by
    intro x1 x3 H locs hh ls hl hf
    rw [fX5_lowCode_b45] at hf
    refine lv_iload_n hx hb dX5_lowCode_45 rfl (lv_at hl 0 rfl) ?_
    refine lv_if_lt (tgt := 54) hx hb dX5_lowCode_46 (by decide) (fun h11 => ?_) (fun h11 => ?_)
    · have hf := pq_brt hf h11
      refine lv_iload_n hx hb dX5_lowCode_54 rfl (lv_at hl 1 rfl) ?_
      refine lv_iconst (v := (3 : Int32)) hx hb dX5_lowCode_55 (by decide) ?_
      refine lv_icmp_ge (tgt := 66) hx hb dX5_lowCode_56 (by decide) (fun h12 => ?_) (fun h12 => ?_)
      · have hf := pq_brt hf h12
        refine lv_bipush (v := (34 : Int32)) hx hb dX5_lowCode_66 (by decide) ?_
        refine lv_iload_n hx hb dX5_lowCode_68 rfl (lv_at hl 1 rfl) ?_
        refine lv_isub hx hb dX5_lowCode_69 ?_
        obtain rfl := Option.some.inj hf
        exact hret _ _ _ ls hh dX5_lowCode_70 rfl
      · have hf := pq_brf hf h12
        refine lv_bipush (v := (64 : Int32)) hx hb dX5_lowCode_59 (by decide) ?_
        refine lv_iload_n hx hb dX5_lowCode_61 rfl (lv_at hl 1 rfl) ?_
        refine lv_isub hx hb dX5_lowCode_62 ?_
        refine lv_goto (tgt := 70) hx hb dX5_lowCode_63 (by decide) ?_
        obtain rfl := Option.some.inj hf
        exact hret _ _ _ ls hh dX5_lowCode_70 rfl
    · have hf := pq_brf hf h11
      refine lv_bipush (v := (62 : Int32)) hx hb dX5_lowCode_49 (by decide) ?_
      refine lv_iload_n hx hb dX5_lowCode_51 rfl (lv_at hl 1 rfl) ?_
      refine lv_isub hx hb dX5_lowCode_52 ?_
      obtain rfl := Option.some.inj hf
      exact hret _ _ _ ls hh dX5_lowCode_53 rfl
  have J15 : ∀ (fuel15 : Nat) (x1 : Int32) (x2 : Int32) (x3 : Int32) (H : Heap) (locs : List Loc), pq_H D A s (wX5_lowCode cI th th_high th_x th_low th_low_numbers c_secondHeard f_low_numbers) H locs → ∀ ls : Array Slot, lv_has ls 4 [(0, .ref th), (1, .int x1), (2, .int x2), (3, .int x3)] → fX5_lowCode_b15  f_low_numbers fuel15 x1 x2 x3 = some res → W p l e (pq_rm 1 21) s m args below meth c H locs 0 0 Q (F0 m 15 ls []) := by
    intro fuel15
    induction fuel15 with
    | zero => intro x1 x2 x3 H locs hh ls hl hf; rw [fX5_lowCode_b15] at hf; cases hf
    | succ fuel15 ih15 =>
      intro x1 x2 x3 H locs hh ls hl hf
      rw [fX5_lowCode_b15] at hf
      refine lv_iload_n hx hb dX5_lowCode_15 rfl (lv_at hl 3 rfl) ?_
      refine lv_bipush (v := (30 : Int32)) hx hb dX5_lowCode_16 (by decide) ?_
      refine lv_icmp_ge (tgt := 45) hx hb dX5_lowCode_18 (by decide) (fun h2 => ?_) (fun h2 => ?_)
      · have hf := pq_brt hf h2
        exact J45 x1 x3 _ _ hh ls (lv_sub hl [1, 3] rfl) hf
      · have hf := pq_brf hf h2
        refine lv_iload_n hx hb dX5_lowCode_21 rfl (lv_at hl 2 rfl) ?_
        refine lv_aload_n hx hb dX5_lowCode_22 rfl (lv_at hl 0 rfl) ?_
        refine pq_get C hh i5 0 4 rfl rfl 0 (by decide) kf12 rfl rfl dX5_lowCode_23 ?_
        refine pq_gets C hh z1 kf77 dX5_lowCode_26 ?_
        refine lv_iload_n hx hb dX5_lowCode_29 rfl (lv_at hl 3 rfl) ?_
        refine lv_iconst (v := (1 : Int32)) hx hb dX5_lowCode_30 (by decide) ?_
        refine lv_isub hx hb dX5_lowCode_31 ?_
        obtain ⟨h3, hf⟩ := pq_rdx hf
        refine pq_ti C hh T1 h3 dX5_lowCode_32 (fun v4 e5 => ?_)
        have hf := hf v4 e5
        obtain ⟨r6, hu7, hf⟩ := pq_clx hf
        refine pq_cvI (n := 1) (As := [.int v4]) C hh (qX1_scaled l D cI cL th_low th_low_numbers f_low_numbers v4 r6 hu7) (gvX1_scaled hs (pq_m9 _ (List.mem_of_getElem? (i := 4) rfl))) rfl (by decide +kernel) ⟨Nat.le_of_ble_eq_true rfl, Nat.le_of_ble_eq_true rfl⟩ 1 1 rfl rfl rfl hl.1 rfl rfl (Nat.le_of_ble_eq_true rfl) dX5_lowCode_33 ⟨Nat.zero_le _, Nat.zero_le _⟩ [1, 2] [0] [0, 1, 2] rfl rfl (by decide) (by decide) (by decide) rfl (fun H locs (hh : pq_H D A s (wX5_lowCode cI th th_high th_x th_low th_low_numbers c_secondHeard f_low_numbers) H locs) => ?_)
        refine lv_icmp_lt (tgt := 45) hx hb dX5_lowCode_36 (by decide) (fun h8 => ?_) (fun h8 => ?_)
        · have hf := pq_brt hf h8
          exact J45 x1 x3 _ _ hh ls (lv_sub hl [1, 3] rfl) hf
        · have hf := pq_brf hf h8
          obtain ⟨v9, e10⟩ : ∃ y : Int32, y = x3 + (1 : Int32) := ⟨_, rfl⟩
          refine lv_iinc (v := v9) (lv' := [(3, .int v9), (0, .ref th), (1, .int x1), (2, .int x2)]) hx hb dX5_lowCode_39 hl (k := 3) rfl (by rw [e10]; rfl) (by decide) rfl (fun ls hl => ?_)
          have hf := pq_nmx hf v9 e10
          refine lv_goto (tgt := 15) hx hb dX5_lowCode_42 (by decide) ?_
          exact ih15 x1 x2 v9 _ _ hh ls (lv_sub hl [1, 2, 3, 0] rfl) hf
  have J12 : ∀ (x1 : Int32) (s0 : Int32) (H : Heap) (locs : List Loc), pq_H D A s (wX5_lowCode cI th th_high th_x th_low th_low_numbers c_secondHeard f_low_numbers) H locs → ∀ ls : Array Slot, lv_has ls 4 [(0, .ref th), (1, .int x1)] → fX5_lowCode_b12  f_low_numbers x1 s0 = some res → W p l e (pq_rm 1 21) s m args below meth c H locs 0 0 Q (F0 m 12 ls [.int s0]) := by
    intro x1 s0 H locs hh ls hl hf
    rw [fX5_lowCode_b12] at hf
    refine lv_istore_n (lv' := [(2, .int s0), (0, .ref th), (1, .int x1)]) hx hb dX5_lowCode_12 rfl hl (by decide) rfl (fun ls hl => ?_)
    refine lv_iconst (v := (1 : Int32)) hx hb dX5_lowCode_13 (by decide) ?_
    refine lv_istore_n (lv' := [(3, .int (1 : Int32)), (2, .int s0), (0, .ref th), (1, .int x1)]) hx hb dX5_lowCode_14 rfl hl (by decide) rfl (fun ls hl => ?_)
    exact J15 1100 x1 s0 (1 : Int32) _ _ hh ls (lv_sub hl [2, 3, 1, 0] rfl) hf
  rw [fX5_lowCode] at hf
  refine lv_iload_n hx hb dX5_lowCode_0 rfl (lv_at hl 1 rfl) ?_
  refine lv_if_ge (tgt := 11) hx hb dX5_lowCode_1 (by decide) (fun h1 => ?_) (fun h1 => ?_)
  · have hf := pq_brt hf h1
    refine lv_iload_n hx hb dX5_lowCode_11 rfl (lv_at hl 1 rfl) ?_
    exact J12 a1 a1 _ _ hh ls (lv_sub hl [0, 1] rfl) hf
  · have hf := pq_brf hf h1
    refine lv_iload_n hx hb dX5_lowCode_4 rfl (lv_at hl 1 rfl) ?_
    refine lv_iconst (v := (1 : Int32)) hx hb dX5_lowCode_5 (by decide) ?_
    refine lv_iadd hx hb dX5_lowCode_6 ?_
    refine lv_ineg hx hb dX5_lowCode_7 ?_
    refine lv_goto (tgt := 12) hx hb dX5_lowCode_8 (by decide) ?_
    exact J12 a1 (-(a1 + (1 : Int32))) _ _ hh ls (lv_sub hl [0, 1] rfl) hf
set_option maxHeartbeats 4000000 in
set_option maxRecDepth 100000 in
theorem qX5_highCode (l : Launch) (D : va_G) (cI cL : ClassId) (th : Nat) (th_low : Nat) (th_x : Nat) (th_high : Nat) (th_high_numbers : Nat) (c_secondHeard : Int32) (f_high_numbers : Nat → Int32) (a1 : Int32) (res : Int32) (hf : fX5_highCode a1 f_high_numbers = some res) : pq_CI l yX5_highCode qsX5_highCode 1 21 D cI cL [.ref th, .int a1] (wX5_highCode cI th th_low th_x th_high th_high_numbers c_secondHeard f_high_numbers) (wX5_highCode cI th th_low th_x th_high th_high_numbers c_secondHeard f_high_numbers) res := by
  refine pq_mkI (cc := cX5_highCode) (maxL := 4) (RT := .int) (by decide) rfl (Nat.le_of_ble_eq_true rfl) ?_
  intro p e s m args below meth c Q A C hh hret ls hl
  have hx := C.1
  have hb := C.2.1
  have hml := C.2.2.1
  have hown : s.vm.findClass RX5 = some m.cls := C.2.2.2.1
  have hs : ∀ w ∈ wsL_law, w ∈ qsX5_highCode := fun _ h => List.mem_cons_of_mem _ h
  have htw : ∀ w ∈ wsL_law, w.before args s = true := fun w h => C.2.2.2.2.1 w (hs w h)
  have hl : lv_has ls 4 [(0, .ref th), (1, .int a1)] := hl
  have i5 : ∀ w ∈ wsX50, w ∈ qsX5_highCode := fun w h => hs w (pq_i5 w h)
  have kf18 := htw (.fieldLink RX5 18 "VoiceDesk$Wideband" "high" "LVoiceDesk$Band;") (pq_m3 _ (List.mem_of_getElem? (i := 4) rfl))
  have J32 : ∀ (x1 : Int32) (s0 : Int32) (H : Heap) (locs : List Loc), pq_H D A s (wX5_highCode cI th th_low th_x th_high th_high_numbers c_secondHeard f_high_numbers) H locs → ∀ ls : Array Slot, lv_has ls 4 [(1, .int x1)] → fX5_highCode_b32  f_high_numbers x1 s0 = some res → W p l e (pq_rm 1 21) s m args below meth c H locs 0 0 Q (F0 m 32 ls [.int s0]) := by
    intro x1 s0 H locs hh ls hl hf
    rw [fX5_highCode_b32] at hf
    refine lv_istore_n (lv' := [(3, .int s0), (1, .int x1)]) hx hb dX5_highCode_32 rfl hl (by decide) rfl (fun ls hl => ?_)
    refine lv_iload_n hx hb dX5_highCode_33 rfl (lv_at hl 1 rfl) ?_
    refine lv_if_ge (tgt := 41) hx hb dX5_highCode_34 (by decide) (fun h5 => ?_) (fun h5 => ?_)
    · have hf := pq_brt hf h5
      refine lv_iconst (v := (2 : Int32)) hx hb dX5_highCode_41 (by decide) ?_
      refine lv_iload_n hx hb dX5_highCode_42 rfl (lv_at hl 0 rfl) ?_
      refine lv_iadd hx hb dX5_highCode_43 ?_
      obtain rfl := Option.some.inj hf
      exact hret _ _ _ ls hh dX5_highCode_44 rfl
    · have hf := pq_brf hf h5
      refine lv_iload_n hx hb dX5_highCode_37 rfl (lv_at hl 0 rfl) ?_
      refine lv_goto (tgt := 44) hx hb dX5_highCode_38 (by decide) ?_
      obtain rfl := Option.some.inj hf
      exact hret _ _ _ ls hh dX5_highCode_44 rfl
  have J12 : ∀ (x1 : Int32) (s0 : Int32) (H : Heap) (locs : List Loc), pq_H D A s (wX5_highCode cI th th_low th_x th_high th_high_numbers c_secondHeard f_high_numbers) H locs → ∀ ls : Array Slot, lv_has ls 4 [(0, .ref th), (1, .int x1)] → fX5_highCode_b12  f_high_numbers x1 s0 = some res → W p l e (pq_rm 1 21) s m args below meth c H locs 0 0 Q (F0 m 12 ls [.int s0]) := by
    intro x1 s0 H locs hh ls hl hf
    rw [fX5_highCode_b12] at hf
    refine lv_istore_n (lv' := [(2, .int s0), (0, .ref th), (1, .int x1)]) hx hb dX5_highCode_12 rfl hl (by decide) rfl (fun ls hl => ?_)
    refine lv_iload_n hx hb dX5_highCode_13 rfl (lv_at hl 0 rfl) ?_
    refine lv_aload_n hx hb dX5_highCode_14 rfl (lv_at hl 1 rfl) ?_
    refine pq_get C hh i5 0 4 rfl rfl 1 (by decide) kf18 rfl rfl dX5_highCode_15 ?_
    refine lv_sipush (v := (564 : Int32)) hx hb dX5_highCode_18 (by decide) ?_
    obtain ⟨r2, hu3, hf⟩ := pq_clx hf
    refine pq_cvI (n := 1) (As := [.int (564 : Int32)]) C hh (qX1_scaled l D cI cL th_high th_high_numbers f_high_numbers (564 : Int32) r2 hu3) (gvX1_scaled hs (pq_m9 _ (List.mem_of_getElem? (i := 4) rfl))) rfl (by decide +kernel) ⟨Nat.le_of_ble_eq_true rfl, Nat.le_of_ble_eq_true rfl⟩ 1 1 rfl rfl rfl hl.1 rfl rfl (Nat.le_of_ble_eq_true rfl) dX5_highCode_21 ⟨Nat.zero_le _, Nat.zero_le _⟩ [1, 2] [0] [0, 1, 2] rfl rfl (by decide) (by decide) (by decide) rfl (fun H locs (hh : pq_H D A s (wX5_highCode cI th th_low th_x th_high th_high_numbers c_secondHeard f_high_numbers) H locs) => ?_)
    refine lv_icmp_ge (tgt := 31) hx hb dX5_highCode_24 (by decide) (fun h4 => ?_) (fun h4 => ?_)
    · have hf := pq_brt hf h4
      refine lv_iconst (v := (0 : Int32)) hx hb dX5_highCode_31 (by decide) ?_
      exact J32 x1 (0 : Int32) _ _ hh ls (lv_sub hl [2] rfl) hf
    · have hf := pq_brf hf h4
      refine lv_iconst (v := (1 : Int32)) hx hb dX5_highCode_27 (by decide) ?_
      refine lv_goto (tgt := 32) hx hb dX5_highCode_28 (by decide) ?_
      exact J32 x1 (1 : Int32) _ _ hh ls (lv_sub hl [2] rfl) hf
  rw [fX5_highCode] at hf
  refine lv_iload_n hx hb dX5_highCode_0 rfl (lv_at hl 1 rfl) ?_
  refine lv_if_ge (tgt := 11) hx hb dX5_highCode_1 (by decide) (fun h1 => ?_) (fun h1 => ?_)
  · have hf := pq_brt hf h1
    refine lv_iload_n hx hb dX5_highCode_11 rfl (lv_at hl 1 rfl) ?_
    exact J12 a1 a1 _ _ hh ls (lv_sub hl [0, 1] rfl) hf
  · have hf := pq_brf hf h1
    refine lv_iload_n hx hb dX5_highCode_4 rfl (lv_at hl 1 rfl) ?_
    refine lv_iconst (v := (1 : Int32)) hx hb dX5_highCode_5 (by decide) ?_
    refine lv_iadd hx hb dX5_highCode_6 ?_
    refine lv_ineg hx hb dX5_highCode_7 ?_
    refine lv_goto (tgt := 12) hx hb dX5_highCode_8 (by decide) ?_
    exact J12 a1 (-(a1 + (1 : Int32))) _ _ hh ls (lv_sub hl [0, 1] rfl) hf
set_option maxHeartbeats 4000000 in
set_option maxRecDepth 100000 in
theorem qX5_settle (l : Launch) (D : va_G) (cI cL : ClassId) (th : Nat) (th_x : Nat) (th_low : Nat) (th_low_numbers : Nat) (th_high : Nat) (th_high_numbers : Nat) (c_secondHeard : Int32) (f_low_numbers : Nat → Int32) (f_high_numbers : Nat → Int32) (a1 : Int32) (a2 : Int32) (res : (Nat → Int32) × (Nat → Int32)) (hf : fX5_settle a1 a2 f_low_numbers f_high_numbers = some res) : pq_CV l yX5_settle qsX5_settle 3 78 D cI cL [.ref th, .int a1, .int a2] (wX5_settle cI th th_x th_low th_low_numbers th_high th_high_numbers c_secondHeard f_low_numbers f_high_numbers) (wX5_settle cI th th_x th_low th_low_numbers th_high th_high_numbers c_secondHeard res.1 res.2) := by
  refine pq_mkV (cc := cX5_settle) (maxL := 4) (by decide) rfl (Nat.le_of_ble_eq_true rfl) ?_
  intro p e s m args below meth c Q A C hh hret ls hl
  have hx := C.1
  have hb := C.2.1
  have hml := C.2.2.1
  have hown : s.vm.findClass RX5 = some m.cls := C.2.2.2.1
  have hs : ∀ w ∈ wsL_law, w ∈ qsX5_settle := fun _ h => List.mem_cons_of_mem _ h
  have htw : ∀ w ∈ wsL_law, w.before args s = true := fun w h => C.2.2.2.2.1 w (hs w h)
  have hl : lv_has ls 4 [(0, .ref th), (1, .int a1), (2, .int a2)] := hl
  have i5 : ∀ w ∈ wsX50, w ∈ qsX5_settle := fun w h => hs w (pq_i5 w h)
  have kf12 := htw (.fieldLink RX5 12 "VoiceDesk$Wideband" "low" "LVoiceDesk$Band;") (pq_m3 _ (List.mem_of_getElem? (i := 3) rfl))
  have kf18 := htw (.fieldLink RX5 18 "VoiceDesk$Wideband" "high" "LVoiceDesk$Band;") (pq_m3 _ (List.mem_of_getElem? (i := 4) rfl))
  have kf68 := htw (.fieldLink RX5 68 "VoiceDesk$Wideband" "V" "[I") (pq_m9 _ (List.mem_of_getElem? (i := 18) rfl))
  have kf89 := htw (.fieldLink RX5 89 "VoiceDesk$Wideband" "U" "[I") (pq_m9 _ (List.mem_of_getElem? (i := 16) rfl))
  have kf92 := htw (.fieldLink RX5 92 "VoiceDesk$Wideband" "WL" "[I") (pq_m9 _ (List.mem_of_getElem? (i := 17) rfl))
  have kf98 := htw (.fieldLink RX5 98 "VoiceDesk$Wideband" "WH" "[I") (pq_m9 _ (List.mem_of_getElem? (i := 19) rfl))
  obtain ⟨t2, z2, T2⟩ := pq_tab C 2 rfl
  obtain ⟨t3, z3, T3⟩ := pq_tab C 3 rfl
  obtain ⟨t5, z5, T5⟩ := pq_tab C 5 rfl
  obtain ⟨t6, z6, T6⟩ := pq_tab C 6 rfl
  rw [fX5_settle] at hf
  refine lv_iload_n hx hb dX5_settle_0 rfl (lv_at hl 1 rfl) ?_
  refine lv_iconst (v := (2 : Int32)) hx hb dX5_settle_1 (by decide) ?_
  refine lv_ishr hx hb dX5_settle_2 ?_
  refine lv_bipush (v := (15 : Int32)) hx hb dX5_settle_3 (by decide) ?_
  refine lv_iand hx hb dX5_settle_5 ?_
  refine lv_topi (fun v1 e2 => ?_)
  have hf := pq_nmx hf v1 e2
  refine lv_istore_n (lv' := [(3, .int v1), (0, .ref th), (1, .int a1), (2, .int a2)]) hx hb dX5_settle_6 rfl hl (by decide) rfl (fun ls hl => ?_)
  refine lv_aload_n hx hb dX5_settle_7 rfl (lv_at hl 1 rfl) ?_
  refine pq_get C hh i5 0 4 rfl rfl 0 (by decide) kf12 rfl rfl dX5_settle_8 ?_
  refine pq_gets C hh z2 kf89 dX5_settle_11 ?_
  refine lv_iload_n hx hb dX5_settle_14 rfl (lv_at hl 0 rfl) ?_
  obtain ⟨h3, hf⟩ := pq_rdx hf
  refine pq_ti C hh T2 h3 dX5_settle_15 (fun v4 e5 => ?_)
  have hf := hf v4 e5
  refine pq_gets C hh z3 kf92 dX5_settle_16 ?_
  refine lv_iload_n hx hb dX5_settle_19 rfl (lv_at hl 0 rfl) ?_
  obtain ⟨h6, hf⟩ := pq_rdx hf
  refine pq_ti C hh T3 h6 dX5_settle_20 (fun v7 e8 => ?_)
  have hf := hf v7 e8
  refine lv_sipush (v := (18432 : Int32)) hx hb dX5_settle_21 (by decide) ?_
  refine lv_bipush (v := (8 : Int32)) hx hb dX5_settle_24 (by decide) ?_
  obtain ⟨f9, hu10, hf⟩ := pq_clx hf
  refine pq_cvV (n := 4) (As := [.int v4, .int v7, .int (18432 : Int32), .int (8 : Int32)]) C hh (qX1_settle l D cI cL th_low th_low_numbers f_low_numbers v4 v7 (18432 : Int32) (8 : Int32) f9 hu10) (gvX1_settle hs (pq_m9 _ (List.mem_of_getElem? (i := 20) rfl))) rfl (by decide +kernel) ⟨Nat.le_of_ble_eq_true rfl, Nat.le_of_ble_eq_true rfl⟩ 1 1 rfl rfl rfl hl.1 rfl rfl (Nat.le_of_ble_eq_true rfl) dX5_settle_26 ⟨Nat.zero_le _, Nat.zero_le _⟩ [1, 2] [0, 3, 4] [0, 3, 4, 1, 2] rfl rfl (by decide) (by decide) (by decide) rfl (fun H locs (hh : pq_H D A s (wX5_settle cI th th_x th_low th_low_numbers th_high th_high_numbers c_secondHeard f9 f_high_numbers) H locs) => ?_)
  refine lv_aload_n hx hb dX5_settle_29 rfl (lv_at hl 1 rfl) ?_
  refine pq_get C hh i5 0 4 rfl rfl 1 (by decide) kf18 rfl rfl dX5_settle_30 ?_
  refine pq_gets C hh z5 kf68 dX5_settle_33 ?_
  refine lv_iload_n hx hb dX5_settle_36 rfl (lv_at hl 3 rfl) ?_
  refine lv_iconst (v := (3 : Int32)) hx hb dX5_settle_37 (by decide) ?_
  refine lv_iand hx hb dX5_settle_38 ?_
  obtain ⟨h11, hf⟩ := pq_rdx hf
  refine pq_ti C hh T5 h11 dX5_settle_39 (fun v12 e13 => ?_)
  have hf := hf v12 e13
  refine pq_gets C hh z6 kf98 dX5_settle_40 ?_
  refine lv_iload_n hx hb dX5_settle_43 rfl (lv_at hl 3 rfl) ?_
  refine lv_iconst (v := (3 : Int32)) hx hb dX5_settle_44 (by decide) ?_
  refine lv_iand hx hb dX5_settle_45 ?_
  obtain ⟨h14, hf⟩ := pq_rdx hf
  refine pq_ti C hh T6 h14 dX5_settle_46 (fun v15 e16 => ?_)
  have hf := hf v15 e16
  refine lv_sipush (v := (22528 : Int32)) hx hb dX5_settle_47 (by decide) ?_
  refine lv_bipush (v := (10 : Int32)) hx hb dX5_settle_50 (by decide) ?_
  obtain ⟨f17, hu18, hf⟩ := pq_clx hf
  refine pq_cvV (n := 4) (As := [.int v12, .int v15, .int (22528 : Int32), .int (10 : Int32)]) C hh (qX1_settle l D cI cL th_high th_high_numbers f_high_numbers v12 v15 (22528 : Int32) (10 : Int32) f17 hu18) (gvX1_settle hs (pq_m9 _ (List.mem_of_getElem? (i := 20) rfl))) rfl (by decide +kernel) ⟨Nat.le_of_ble_eq_true rfl, Nat.le_of_ble_eq_true rfl⟩ 3 1 rfl rfl rfl hl.1 rfl rfl (Nat.le_of_ble_eq_true rfl) dX5_settle_52 ⟨Nat.zero_le _, Nat.zero_le _⟩ [3, 4] [0, 1, 2] [0, 1, 2, 3, 4] rfl rfl (by decide) (by decide) (by decide) rfl (fun H locs (hh : pq_H D A s (wX5_settle cI th th_x th_low th_low_numbers th_high th_high_numbers c_secondHeard f9 f17) H locs) => ?_)
  obtain rfl := Option.some.inj hf
  exact hret _ _ _ ls hh dX5_settle_55
set_option maxHeartbeats 4000000 in
set_option maxRecDepth 100000 in
theorem qX5_encode (l : Launch) (D : va_G) (cI cL : ClassId) (th : Nat) (th_low : Nat) (th_low_numbers : Nat) (th_high : Nat) (th_high_numbers : Nat) (th_x : Nat) (c_secondHeard : Int32) (f_low_numbers : Nat → Int32) (f_high_numbers : Nat → Int32) (f_x : Nat → Int32) (a1 : Int32) (a2 : Int32) (res : Int32 × (Nat → Int32) × (Nat → Int32) × (Nat → Int32)) (hf : fX5_encode a1 a2 f_low_numbers f_high_numbers f_x = some res) : pq_CI l yX5_encode qsX5_encode 4 101 D cI cL [.ref th, .int a1, .int a2] (wX5_encode cI th th_low th_low_numbers th_high th_high_numbers th_x c_secondHeard f_low_numbers f_high_numbers f_x) (wX5_encode cI th th_low th_low_numbers th_high th_high_numbers th_x c_secondHeard res.2.1 res.2.2.1 res.2.2.2) res.1 := by
  refine pq_mkI (cc := cX5_encode) (maxL := 7) (RT := .int) (by decide) rfl (Nat.le_of_ble_eq_true rfl) ?_
  intro p e s m args below meth c Q A C hh hret ls hl
  have hx := C.1
  have hb := C.2.1
  have hml := C.2.2.1
  have hown : s.vm.findClass RX5 = some m.cls := C.2.2.2.1
  have hs : ∀ w ∈ wsL_law, w ∈ qsX5_encode := fun _ h => List.mem_cons_of_mem _ h
  have htw : ∀ w ∈ wsL_law, w.before args s = true := fun w h => C.2.2.2.2.1 w (hs w h)
  have hl : lv_has ls 7 [(0, .ref th), (1, .int a1), (2, .int a2)] := hl
  have i5 : ∀ w ∈ wsX50, w ∈ qsX5_encode := fun w h => hs w (pq_i5 w h)
  have kf12 := htw (.fieldLink RX5 12 "VoiceDesk$Wideband" "low" "LVoiceDesk$Band;") (pq_m3 _ (List.mem_of_getElem? (i := 3) rfl))
  have kf18 := htw (.fieldLink RX5 18 "VoiceDesk$Wideband" "high" "LVoiceDesk$Band;") (pq_m3 _ (List.mem_of_getElem? (i := 4) rfl))
  rw [fX5_encode] at hf
  refine lv_aload_n hx hb dX5_encode_0 rfl (lv_at hl 0 rfl) ?_
  refine lv_iload_n hx hb dX5_encode_1 rfl (lv_at hl 1 rfl) ?_
  refine lv_iload_n hx hb dX5_encode_2 rfl (lv_at hl 2 rfl) ?_
  obtain ⟨f1, hu2, hf⟩ := pq_clx hf
  refine pq_cvV (n := 2) (As := [.int a1, .int a2]) C hh (qX5_push l D cI cL th th_low th_high th_x c_secondHeard f_x a1 a2 f1 hu2) (gvX5_push hs (pq_m8 _ (List.mem_of_getElem? (i := 4) rfl))) rfl (by decide +kernel) ⟨Nat.le_of_ble_eq_true rfl, Nat.le_of_ble_eq_true rfl⟩ 0 4 rfl rfl rfl hl.1 rfl rfl (Nat.le_of_ble_eq_true rfl) dX5_encode_3 ⟨Nat.zero_le _, Nat.zero_le _⟩ [0, 5] [1, 2, 3, 4] [4, 0, 1, 2, 3, 5] rfl rfl (by decide) (by decide) (by decide) rfl (fun H locs (hh : pq_H D A s (wX5_encode cI th th_low th_low_numbers th_high th_high_numbers th_x c_secondHeard f_low_numbers f_high_numbers f1) H locs) => ?_)
  refine lv_aload_n hx hb dX5_encode_6 rfl (lv_at hl 0 rfl) ?_
  obtain ⟨r3, hu4, hf⟩ := pq_clx hf
  refine pq_cvI (n := 0) (As := []) C hh (qX5_evenSum l D cI cL th th_low th_high th_x c_secondHeard f1 r3 hu4) (gvX5_evenSum hs (pq_m8 _ (List.mem_of_getElem? (i := 8) rfl))) rfl (by decide +kernel) ⟨Nat.le_of_ble_eq_true rfl, Nat.le_of_ble_eq_true rfl⟩ 0 4 rfl rfl rfl hl.1 rfl rfl (Nat.le_of_ble_eq_true rfl) dX5_encode_7 ⟨Nat.zero_le _, Nat.zero_le _⟩ [0, 5] [1, 2, 3, 4] [4, 0, 1, 2, 3, 5] rfl rfl (by decide) (by decide) (by decide) rfl (fun H locs (hh : pq_H D A s (wX5_encode cI th th_low th_low_numbers th_high th_high_numbers th_x c_secondHeard f_low_numbers f_high_numbers f1) H locs) => ?_)
  refine lv_istore_n (lv' := [(3, .int r3), (0, .ref th), (1, .int a1), (2, .int a2)]) hx hb dX5_encode_10 rfl hl (by decide) rfl (fun ls hl => ?_)
  refine lv_aload_n hx hb dX5_encode_11 rfl (lv_at hl 1 rfl) ?_
  obtain ⟨r5, hu6, hf⟩ := pq_clx hf
  refine pq_cvI (n := 0) (As := []) C hh (qX5_oddSum l D cI cL th th_low th_high th_x c_secondHeard f1 r5 hu6) (gvX5_oddSum hs (pq_m8 _ (List.mem_of_getElem? (i := 13) rfl))) rfl (by decide +kernel) ⟨Nat.le_of_ble_eq_true rfl, Nat.le_of_ble_eq_true rfl⟩ 0 4 rfl rfl rfl hl.1 rfl rfl (Nat.le_of_ble_eq_true rfl) dX5_encode_12 ⟨Nat.zero_le _, Nat.zero_le _⟩ [0, 5] [1, 2, 3, 4] [4, 0, 1, 2, 3, 5] rfl rfl (by decide) (by decide) (by decide) rfl (fun H locs (hh : pq_H D A s (wX5_encode cI th th_low th_low_numbers th_high th_high_numbers th_x c_secondHeard f_low_numbers f_high_numbers f1) H locs) => ?_)
  refine lv_istore (lv' := [(4, .int r5), (3, .int r3), (0, .ref th), (1, .int a1), (2, .int a2)]) hx hb dX5_encode_15 hl (by decide) rfl (fun ls hl => ?_)
  refine lv_aload_n hx hb dX5_encode_17 rfl (lv_at hl 2 rfl) ?_
  refine lv_aload_n hx hb dX5_encode_18 rfl (lv_at hl 2 rfl) ?_
  refine pq_get C hh i5 0 4 rfl rfl 0 (by decide) kf12 rfl rfl dX5_encode_19 ?_
  refine lv_iload hx hb dX5_encode_22 (lv_at hl 0 rfl) ?_
  refine lv_iload_n hx hb dX5_encode_24 rfl (lv_at hl 1 rfl) ?_
  refine lv_iadd hx hb dX5_encode_25 ?_
  refine lv_bipush (v := (14 : Int32)) hx hb dX5_encode_26 (by decide) ?_
  refine lv_ishr hx hb dX5_encode_28 ?_
  obtain ⟨r7, hu8, hf⟩ := pq_clx hf
  refine pq_cvI (n := 1) (As := [.int ((r5 + r3) >>> ((14 : Int32) &&& 31))]) C hh (qX1_error l D cI cL th_low th_low_numbers f_low_numbers ((r5 + r3) >>> ((14 : Int32) &&& 31)) r7 hu8) (gvX1_error hs (pq_m8 _ (List.mem_of_getElem? (i := 17) rfl))) rfl (by decide +kernel) ⟨Nat.le_of_ble_eq_true rfl, Nat.le_of_ble_eq_true rfl⟩ 1 1 rfl rfl rfl hl.1 rfl rfl (Nat.le_of_ble_eq_true rfl) dX5_encode_29 ⟨Nat.zero_le _, Nat.zero_le _⟩ [1, 2] [0, 3, 4, 5] [0, 4, 5, 1, 2, 3] rfl rfl (by decide) (by decide) (by decide) rfl (fun H locs (hh : pq_H D A s (wX5_encode cI th th_low th_low_numbers th_high th_high_numbers th_x c_secondHeard f_low_numbers f_high_numbers f1) H locs) => ?_)
  obtain ⟨r9, hu10, hf⟩ := pq_clx hf
  refine pq_cvI (n := 1) (As := [.int r7]) C hh (qX5_lowCode l D cI cL th th_high th_x th_low th_low_numbers c_secondHeard f_low_numbers r7 r9 hu10) (gvX5_lowCode hs (pq_m8 _ (List.mem_of_getElem? (i := 23) rfl))) rfl (by decide +kernel) ⟨Nat.le_of_ble_eq_true rfl, Nat.le_of_ble_eq_true rfl⟩ 0 4 rfl rfl rfl hl.1 rfl rfl (Nat.le_of_ble_eq_true rfl) dX5_encode_32 ⟨Nat.zero_le _, Nat.zero_le _⟩ [0, 1, 2] [3, 4, 5] [3, 4, 5, 0, 1, 2] rfl rfl (by decide) (by decide) (by decide) rfl (fun H locs (hh : pq_H D A s (wX5_encode cI th th_low th_low_numbers th_high th_high_numbers th_x c_secondHeard f_low_numbers f_high_numbers f1) H locs) => ?_)
  refine lv_istore (lv' := [(5, .int r9), (4, .int r5), (3, .int r3), (0, .ref th), (1, .int a1), (2, .int a2)]) hx hb dX5_encode_35 hl (by decide) rfl (fun ls hl => ?_)
  refine lv_aload_n hx hb dX5_encode_37 rfl (lv_at hl 3 rfl) ?_
  refine lv_aload_n hx hb dX5_encode_38 rfl (lv_at hl 3 rfl) ?_
  refine pq_get C hh i5 0 4 rfl rfl 1 (by decide) kf18 rfl rfl dX5_encode_39 ?_
  refine lv_iload hx hb dX5_encode_42 (lv_at hl 1 rfl) ?_
  refine lv_iload_n hx hb dX5_encode_44 rfl (lv_at hl 2 rfl) ?_
  refine lv_isub hx hb dX5_encode_45 ?_
  refine lv_bipush (v := (14 : Int32)) hx hb dX5_encode_46 (by decide) ?_
  refine lv_ishr hx hb dX5_encode_48 ?_
  obtain ⟨r11, hu12, hf⟩ := pq_clx hf
  refine pq_cvI (n := 1) (As := [.int ((r5 - r3) >>> ((14 : Int32) &&& 31))]) C hh (qX1_error l D cI cL th_high th_high_numbers f_high_numbers ((r5 - r3) >>> ((14 : Int32) &&& 31)) r11 hu12) (gvX1_error hs (pq_m8 _ (List.mem_of_getElem? (i := 17) rfl))) rfl (by decide +kernel) ⟨Nat.le_of_ble_eq_true rfl, Nat.le_of_ble_eq_true rfl⟩ 3 1 rfl rfl rfl hl.1 rfl rfl (Nat.le_of_ble_eq_true rfl) dX5_encode_49 ⟨Nat.zero_le _, Nat.zero_le _⟩ [3, 4] [0, 1, 2, 5] [0, 1, 2, 4, 5, 3] rfl rfl (by decide) (by decide) (by decide) rfl (fun H locs (hh : pq_H D A s (wX5_encode cI th th_low th_low_numbers th_high th_high_numbers th_x c_secondHeard f_low_numbers f_high_numbers f1) H locs) => ?_)
  obtain ⟨r13, hu14, hf⟩ := pq_clx hf
  refine pq_cvI (n := 1) (As := [.int r11]) C hh (qX5_highCode l D cI cL th th_low th_x th_high th_high_numbers c_secondHeard f_high_numbers r11 r13 hu14) (gvX5_highCode hs (pq_m9 _ (List.mem_of_getElem? (i := 8) rfl))) rfl (by decide +kernel) ⟨Nat.le_of_ble_eq_true rfl, Nat.le_of_ble_eq_true rfl⟩ 0 4 rfl rfl rfl hl.1 rfl rfl (Nat.le_of_ble_eq_true rfl) dX5_encode_52 ⟨Nat.zero_le _, Nat.zero_le _⟩ [0, 3, 4] [1, 2, 5] [3, 0, 1, 4, 5, 2] rfl rfl (by decide) (by decide) (by decide) rfl (fun H locs (hh : pq_H D A s (wX5_encode cI th th_low th_low_numbers th_high th_high_numbers th_x c_secondHeard f_low_numbers f_high_numbers f1) H locs) => ?_)
  refine lv_istore (lv' := [(6, .int r13), (5, .int r9), (4, .int r5), (3, .int r3), (0, .ref th), (1, .int a1), (2, .int a2)]) hx hb dX5_encode_55 hl (by decide) rfl (fun ls hl => ?_)
  refine lv_aload_n hx hb dX5_encode_57 rfl (lv_at hl 4 rfl) ?_
  refine lv_iload hx hb dX5_encode_58 (lv_at hl 1 rfl) ?_
  refine lv_iload hx hb dX5_encode_60 (lv_at hl 0 rfl) ?_
  obtain ⟨⟨f15, f16⟩, hu17, hf⟩ := pq_clx hf
  have hf := pq_nmx hf f15 rfl
  have hf := pq_nmx hf f16 rfl
  refine pq_cvV (n := 2) (As := [.int r9, .int r13]) C hh (qX5_settle l D cI cL th th_x th_low th_low_numbers th_high th_high_numbers c_secondHeard f_low_numbers f_high_numbers r9 r13 (f15, f16) hu17) (gvX5_settle hs (pq_m9 _ (List.mem_of_getElem? (i := 12) rfl))) rfl (by decide +kernel) ⟨Nat.le_of_ble_eq_true rfl, Nat.le_of_ble_eq_true rfl⟩ 0 4 rfl rfl rfl hl.1 rfl rfl (Nat.le_of_ble_eq_true rfl) dX5_encode_62 ⟨Nat.zero_le _, Nat.zero_le _⟩ [0, 1, 2, 3, 4] [5] [1, 2, 3, 4, 5, 0] rfl rfl (by decide) (by decide) (by decide) rfl (fun H locs (hh : pq_H D A s (wX5_encode cI th th_low th_low_numbers th_high th_high_numbers th_x c_secondHeard f15 f16 f1) H locs) => ?_)
  refine lv_bipush (v := (64 : Int32)) hx hb dX5_encode_65 (by decide) ?_
  refine lv_iload hx hb dX5_encode_67 (lv_at hl 0 rfl) ?_
  refine lv_imul hx hb dX5_encode_69 ?_
  refine lv_iload hx hb dX5_encode_70 (lv_at hl 1 rfl) ?_
  refine lv_iadd hx hb dX5_encode_72 ?_
  obtain rfl := Option.some.inj hf
  exact hret _ _ _ ls hh dX5_encode_73 rfl
set_option maxHeartbeats 4000000 in
set_option maxRecDepth 100000 in
theorem qX4_encode (l : Launch) (D : va_G) (cI cL : ClassId) (th : Nat) (th_adpcmHearer : Nat) (th_wideHearer : Nat) (th_adpcmSpeaker : Nat) (th_adpcmSpeaker_numbers : Nat) (th_wideSpeaker : Nat) (th_wideSpeaker_low : Nat) (th_wideSpeaker_low_numbers : Nat) (th_wideSpeaker_high : Nat) (th_wideSpeaker_high_numbers : Nat) (th_wideSpeaker_x : Nat) (c_kind : Int32) (c_adpcmSpeaker_bits : Int32) (c_adpcmSpeaker_se : Int32) (c_adpcmSpeaker_sz : Int32) (c_adpcmSpeaker_step : Int32) (f_adpcmSpeaker_numbers : Nat → Int32) (c_wideSpeaker_secondHeard : Int32) (f_wideSpeaker_low_numbers : Nat → Int32) (f_wideSpeaker_high_numbers : Nat → Int32) (f_wideSpeaker_x : Nat → Int32) (a1 : Int32) (a2 : Int32) (res : Int32 × Int32 × Int32 × Int32 × (Nat → Int32) × (Nat → Int32) × (Nat → Int32) × (Nat → Int32)) (hf : fX4_encode a1 a2 c_kind c_adpcmSpeaker_bits c_adpcmSpeaker_se c_adpcmSpeaker_sz c_adpcmSpeaker_step f_adpcmSpeaker_numbers f_wideSpeaker_low_numbers f_wideSpeaker_high_numbers f_wideSpeaker_x = some res) : pq_CI l yX4_encode qsX4_encode 5 127 D cI cL [.ref th, .int a1, .int a2] (wX4_encode cI th th_adpcmHearer th_wideHearer th_adpcmSpeaker th_adpcmSpeaker_numbers th_wideSpeaker th_wideSpeaker_low th_wideSpeaker_low_numbers th_wideSpeaker_high th_wideSpeaker_high_numbers th_wideSpeaker_x c_kind c_adpcmSpeaker_bits c_adpcmSpeaker_se c_adpcmSpeaker_sz c_adpcmSpeaker_step f_adpcmSpeaker_numbers c_wideSpeaker_secondHeard f_wideSpeaker_low_numbers f_wideSpeaker_high_numbers f_wideSpeaker_x) (wX4_encode cI th th_adpcmHearer th_wideHearer th_adpcmSpeaker th_adpcmSpeaker_numbers th_wideSpeaker th_wideSpeaker_low th_wideSpeaker_low_numbers th_wideSpeaker_high th_wideSpeaker_high_numbers th_wideSpeaker_x c_kind c_adpcmSpeaker_bits res.2.1 res.2.2.1 res.2.2.2.1 res.2.2.2.2.1 c_wideSpeaker_secondHeard res.2.2.2.2.2.1 res.2.2.2.2.2.2.1 res.2.2.2.2.2.2.2) res.1 := by
  refine pq_mkI (cc := cX4_encode) (maxL := 3) (RT := .int) (by decide) rfl (Nat.le_of_ble_eq_true rfl) ?_
  intro p e s m args below meth c Q A C hh hret ls hl
  have hx := C.1
  have hb := C.2.1
  have hml := C.2.2.1
  have hown : s.vm.findClass RX4 = some m.cls := C.2.2.2.1
  have hs : ∀ w ∈ wsL_law, w ∈ qsX4_encode := fun _ h => List.mem_cons_of_mem _ h
  have htw : ∀ w ∈ wsL_law, w.before args s = true := fun w h => C.2.2.2.2.1 w (hs w h)
  have hl : lv_has ls 3 [(0, .ref th), (1, .int a1), (2, .int a2)] := hl
  have i4 : ∀ w ∈ wsX40, w ∈ qsX4_encode := fun w h => hs w (pq_i4 w h)
  have kf12 := htw (.fieldLink RX4 12 "VoiceDesk$Line" "adpcmSpeaker" "LVoiceDesk$Adpcm;") (pq_m2 _ (List.mem_of_getElem? (i := 3) rfl))
  have kf24 := htw (.fieldLink RX4 24 "VoiceDesk$Line" "wideSpeaker" "LVoiceDesk$Wideband;") (pq_m2 _ (List.mem_of_getElem? (i := 8) rfl))
  have kf32 := htw (.fieldLink RX4 32 "VoiceDesk$Line" "kind" "I") (pq_m2 _ (List.mem_of_getElem? (i := 11) rfl))
  rw [fX4_encode] at hf
  refine lv_aload_n hx hb dX4_encode_0 rfl (lv_at hl 0 rfl) ?_
  obtain ⟨r1, hu2, hf⟩ := pq_clx hf
  refine pq_cvI (n := 0) (As := []) C hh (qX4_isWide l D cI cL th th_adpcmSpeaker th_adpcmHearer th_wideSpeaker th_wideHearer c_kind r1 hu2) (gvX4_isWide hs (pq_m6 _ (List.mem_of_getElem? (i := 1) rfl))) rfl (by decide +kernel) ⟨Nat.le_of_ble_eq_true rfl, Nat.le_of_ble_eq_true rfl⟩ 0 3 rfl rfl rfl hl.1 rfl rfl (Nat.le_of_ble_eq_true rfl) dX4_encode_1 ⟨Nat.zero_le _, Nat.zero_le _⟩ [0] [1, 2, 3, 4, 5, 6, 7, 8] [8, 0, 1, 2, 3, 4, 5, 6, 7] rfl rfl (by decide) (by decide) (by decide) rfl (fun H locs (hh : pq_H D A s (wX4_encode cI th th_adpcmHearer th_wideHearer th_adpcmSpeaker th_adpcmSpeaker_numbers th_wideSpeaker th_wideSpeaker_low th_wideSpeaker_low_numbers th_wideSpeaker_high th_wideSpeaker_high_numbers th_wideSpeaker_x c_kind c_adpcmSpeaker_bits c_adpcmSpeaker_se c_adpcmSpeaker_sz c_adpcmSpeaker_step f_adpcmSpeaker_numbers c_wideSpeaker_secondHeard f_wideSpeaker_low_numbers f_wideSpeaker_high_numbers f_wideSpeaker_x) H locs) => ?_)
  refine lv_if_eq (tgt := 17) hx hb dX4_encode_4 (by decide) (fun h3 => ?_) (fun h3 => ?_)
  · have hf := pq_brt hf h3
    refine lv_aload_n hx hb dX4_encode_17 rfl (lv_at hl 0 rfl) ?_
    obtain ⟨r4, hu5, hf⟩ := pq_clx hf
    refine pq_cvI (n := 0) (As := []) C hh (qX4_isAdpcm l D cI cL th th_adpcmSpeaker th_adpcmHearer th_wideSpeaker th_wideHearer c_kind r4 hu5) (gvX4_isAdpcm hs (pq_m5 _ (List.mem_of_getElem? (i := 16) rfl))) rfl (by decide +kernel) ⟨Nat.le_of_ble_eq_true rfl, Nat.le_of_ble_eq_true rfl⟩ 0 3 rfl rfl rfl hl.1 rfl rfl (Nat.le_of_ble_eq_true rfl) dX4_encode_18 ⟨Nat.zero_le _, Nat.zero_le _⟩ [0] [1, 2, 3, 4, 5, 6, 7, 8] [8, 0, 1, 2, 3, 4, 5, 6, 7] rfl rfl (by decide) (by decide) (by decide) rfl (fun H locs (hh : pq_H D A s (wX4_encode cI th th_adpcmHearer th_wideHearer th_adpcmSpeaker th_adpcmSpeaker_numbers th_wideSpeaker th_wideSpeaker_low th_wideSpeaker_low_numbers th_wideSpeaker_high th_wideSpeaker_high_numbers th_wideSpeaker_x c_kind c_adpcmSpeaker_bits c_adpcmSpeaker_se c_adpcmSpeaker_sz c_adpcmSpeaker_step f_adpcmSpeaker_numbers c_wideSpeaker_secondHeard f_wideSpeaker_low_numbers f_wideSpeaker_high_numbers f_wideSpeaker_x) H locs) => ?_)
    refine lv_if_eq (tgt := 33) hx hb dX4_encode_21 (by decide) (fun h6 => ?_) (fun h6 => ?_)
    · have hf := pq_brt hf h6
      refine lv_aload_n hx hb dX4_encode_33 rfl (lv_at hl 0 rfl) ?_
      refine pq_get C hh i4 0 3 rfl rfl 4 (by decide) kf32 rfl rfl dX4_encode_34 ?_
      refine lv_if_ne (tgt := 47) hx hb dX4_encode_37 (by decide) (fun h7 => ?_) (fun h7 => ?_)
      · have hf := pq_brf hf h7
        refine lv_iload_n hx hb dX4_encode_47 rfl (lv_at hl 1 rfl) ?_
        obtain ⟨r8, hu9, hf⟩ := pq_clx hf
        refine pq_csI (n := 1) (As := [.int a1]) C hh (qX3_aCode l D cI cL a1 r8 hu9) (gsX3_aCode hs (pq_m15 _ (List.mem_of_getElem? (i := 6) rfl))) rfl (by decide +kernel) ⟨Nat.le_of_ble_eq_true rfl, Nat.le_of_ble_eq_true rfl⟩ hl.1 rfl rfl (Nat.le_of_ble_eq_true rfl) dX4_encode_48 ⟨Nat.zero_le _, Nat.zero_le _⟩ [] [0, 1, 2, 3, 4, 5, 6, 7, 8] [0, 1, 2, 3, 4, 5, 6, 7, 8] rfl rfl (by decide) (by decide) (by decide) rfl (fun H locs (hh : pq_H D A s (wX4_encode cI th th_adpcmHearer th_wideHearer th_adpcmSpeaker th_adpcmSpeaker_numbers th_wideSpeaker th_wideSpeaker_low th_wideSpeaker_low_numbers th_wideSpeaker_high th_wideSpeaker_high_numbers th_wideSpeaker_x c_kind c_adpcmSpeaker_bits c_adpcmSpeaker_se c_adpcmSpeaker_sz c_adpcmSpeaker_step f_adpcmSpeaker_numbers c_wideSpeaker_secondHeard f_wideSpeaker_low_numbers f_wideSpeaker_high_numbers f_wideSpeaker_x) H locs) => ?_)
        obtain rfl := Option.some.inj hf
        exact hret _ _ _ ls hh dX4_encode_51 rfl
      · have hf := pq_brt hf h7
        refine lv_iload_n hx hb dX4_encode_40 rfl (lv_at hl 1 rfl) ?_
        obtain ⟨r10, hu11, hf⟩ := pq_clx hf
        refine pq_csI (n := 1) (As := [.int a1]) C hh (qX3_muCode l D cI cL a1 r10 hu11) (gsX3_muCode hs (pq_m14 _ (List.mem_of_getElem? (i := 21) rfl))) rfl (by decide +kernel) ⟨Nat.le_of_ble_eq_true rfl, Nat.le_of_ble_eq_true rfl⟩ hl.1 rfl rfl (Nat.le_of_ble_eq_true rfl) dX4_encode_41 ⟨Nat.zero_le _, Nat.zero_le _⟩ [] [0, 1, 2, 3, 4, 5, 6, 7, 8] [0, 1, 2, 3, 4, 5, 6, 7, 8] rfl rfl (by decide) (by decide) (by decide) rfl (fun H locs (hh : pq_H D A s (wX4_encode cI th th_adpcmHearer th_wideHearer th_adpcmSpeaker th_adpcmSpeaker_numbers th_wideSpeaker th_wideSpeaker_low th_wideSpeaker_low_numbers th_wideSpeaker_high th_wideSpeaker_high_numbers th_wideSpeaker_x c_kind c_adpcmSpeaker_bits c_adpcmSpeaker_se c_adpcmSpeaker_sz c_adpcmSpeaker_step f_adpcmSpeaker_numbers c_wideSpeaker_secondHeard f_wideSpeaker_low_numbers f_wideSpeaker_high_numbers f_wideSpeaker_x) H locs) => ?_)
        refine lv_goto (tgt := 51) hx hb dX4_encode_44 (by decide) ?_
        obtain rfl := Option.some.inj hf
        exact hret _ _ _ ls hh dX4_encode_51 rfl
    · have hf := pq_brf hf h6
      refine lv_aload_n hx hb dX4_encode_24 rfl (lv_at hl 0 rfl) ?_
      refine pq_get C hh i4 0 3 rfl rfl 0 (by decide) kf12 rfl rfl dX4_encode_25 ?_
      refine lv_iload_n hx hb dX4_encode_28 rfl (lv_at hl 1 rfl) ?_
      obtain ⟨⟨r12, c13, c14, c15, f16⟩, hu17, hf⟩ := pq_clx hf
      have hf := pq_nmx hf r12 rfl
      have hf := pq_nmx hf c13 rfl
      have hf := pq_nmx hf c14 rfl
      have hf := pq_nmx hf c15 rfl
      have hf := pq_nmx hf f16 rfl
      refine pq_cvI (n := 1) (As := [.int a1]) C hh (qX0_encode l D cI cL th_adpcmSpeaker th_adpcmSpeaker_numbers c_adpcmSpeaker_bits c_adpcmSpeaker_se c_adpcmSpeaker_sz c_adpcmSpeaker_step f_adpcmSpeaker_numbers a1 (r12, c13, c14, c15, f16) hu17) (gvX0_encode hs (pq_m11 _ (List.mem_of_getElem? (i := 9) rfl))) rfl (by decide +kernel) ⟨Nat.le_of_ble_eq_true rfl, Nat.le_of_ble_eq_true rfl⟩ 1 0 rfl rfl rfl hl.1 rfl rfl (Nat.le_of_ble_eq_true rfl) dX4_encode_29 ⟨Nat.zero_le _, Nat.zero_le _⟩ [1, 2] [0, 3, 4, 5, 6, 7, 8] [0, 7, 8, 1, 2, 3, 4, 5, 6] rfl rfl (by decide) (by decide) (by decide) rfl (fun H locs (hh : pq_H D A s (wX4_encode cI th th_adpcmHearer th_wideHearer th_adpcmSpeaker th_adpcmSpeaker_numbers th_wideSpeaker th_wideSpeaker_low th_wideSpeaker_low_numbers th_wideSpeaker_high th_wideSpeaker_high_numbers th_wideSpeaker_x c_kind c_adpcmSpeaker_bits c13 c14 c15 f16 c_wideSpeaker_secondHeard f_wideSpeaker_low_numbers f_wideSpeaker_high_numbers f_wideSpeaker_x) H locs) => ?_)
      obtain rfl := Option.some.inj hf
      exact hret _ _ _ ls hh dX4_encode_32 rfl
  · have hf := pq_brf hf h3
    refine lv_aload_n hx hb dX4_encode_7 rfl (lv_at hl 0 rfl) ?_
    refine pq_get C hh i4 0 3 rfl rfl 2 (by decide) kf24 rfl rfl dX4_encode_8 ?_
    refine lv_iload_n hx hb dX4_encode_11 rfl (lv_at hl 1 rfl) ?_
    refine lv_iload_n hx hb dX4_encode_12 rfl (lv_at hl 2 rfl) ?_
    obtain ⟨⟨r19, f20, f21, f22⟩, hu23, hf⟩ := pq_clx hf
    have hf := pq_nmx hf r19 rfl
    have hf := pq_nmx hf f20 rfl
    have hf := pq_nmx hf f21 rfl
    have hf := pq_nmx hf f22 rfl
    refine pq_cvI (n := 2) (As := [.int a1, .int a2]) C hh (qX5_encode l D cI cL th_wideSpeaker th_wideSpeaker_low th_wideSpeaker_low_numbers th_wideSpeaker_high th_wideSpeaker_high_numbers th_wideSpeaker_x c_wideSpeaker_secondHeard f_wideSpeaker_low_numbers f_wideSpeaker_high_numbers f_wideSpeaker_x a1 a2 (r19, f20, f21, f22) hu23) (gvX5_encode hs (pq_m8 _ (List.mem_of_getElem? (i := 0) rfl))) rfl (by decide +kernel) ⟨Nat.le_of_ble_eq_true rfl, Nat.le_of_ble_eq_true rfl⟩ 3 4 rfl rfl rfl hl.1 rfl rfl (Nat.le_of_ble_eq_true rfl) dX4_encode_13 ⟨Nat.zero_le _, Nat.zero_le _⟩ [3, 4, 5, 6, 7, 8] [0, 1, 2] [0, 1, 2, 3, 4, 5, 6, 7, 8] rfl rfl (by decide) (by decide) (by decide) rfl (fun H locs (hh : pq_H D A s (wX4_encode cI th th_adpcmHearer th_wideHearer th_adpcmSpeaker th_adpcmSpeaker_numbers th_wideSpeaker th_wideSpeaker_low th_wideSpeaker_low_numbers th_wideSpeaker_high th_wideSpeaker_high_numbers th_wideSpeaker_x c_kind c_adpcmSpeaker_bits c_adpcmSpeaker_se c_adpcmSpeaker_sz c_adpcmSpeaker_step f_adpcmSpeaker_numbers c_wideSpeaker_secondHeard f20 f21 f22) H locs) => ?_)
    obtain rfl := Option.some.inj hf
    exact hret _ _ _ ls hh dX4_encode_16 rfl
set_option maxHeartbeats 4000000 in
set_option maxRecDepth 100000 in
theorem qX5_lowFactor (l : Launch) (D : va_G) (cI cL : ClassId) (a0 : Int32) (a1 : Int32) (res : Int32) (hf : fX5_lowFactor a0 a1 = some res) : pq_CI l yX5_lowFactor qsX5_lowFactor 0 0 D cI cL [.int a0, .int a1] [] [] res := by
  refine pq_mkI (cc := cX5_lowFactor) (maxL := 2) (RT := .int) (by decide) rfl (Nat.le_of_ble_eq_true rfl) ?_
  intro p e s m args below meth c Q A C hh hret ls hl
  have hx := C.1
  have hb := C.2.1
  have hml := C.2.2.1
  have hown : s.vm.findClass RX5 = some m.cls := C.2.2.2.1
  have hs : ∀ w ∈ wsL_law, w ∈ qsX5_lowFactor := fun _ h => List.mem_cons_of_mem _ h
  have htw : ∀ w ∈ wsL_law, w.before args s = true := fun w h => C.2.2.2.2.1 w (hs w h)
  have hl : lv_has ls 2 [(0, .int a0), (1, .int a1)] := hl
  have kf83 := htw (.fieldLink RX5 83 "VoiceDesk$Wideband" "X_64" "[I") (pq_m21 _ (List.mem_of_getElem? (i := 20) rfl))
  have kf86 := htw (.fieldLink RX5 86 "VoiceDesk$Wideband" "X_56" "[I") (pq_m21 _ (List.mem_of_getElem? (i := 21) rfl))
  have kf89 := htw (.fieldLink RX5 89 "VoiceDesk$Wideband" "U" "[I") (pq_m9 _ (List.mem_of_getElem? (i := 16) rfl))
  obtain ⟨t2, z2, T2⟩ := pq_tab C 2 rfl
  obtain ⟨t11, z11, T11⟩ := pq_tab C 11 rfl
  obtain ⟨t12, z12, T12⟩ := pq_tab C 12 rfl
  rw [fX5_lowFactor] at hf
  refine lv_iload_n hx hb dX5_lowFactor_0 rfl (lv_at hl 1 rfl) ?_
  refine lv_bipush (v := (6 : Int32)) hx hb dX5_lowFactor_1 (by decide) ?_
  refine lv_icmp_ne (tgt := 15) hx hb dX5_lowFactor_3 (by decide) (fun h1 => ?_) (fun h1 => ?_)
  · have hf := pq_brf hf h1
    refine lv_iload_n hx hb dX5_lowFactor_15 rfl (lv_at hl 1 rfl) ?_
    refine lv_bipush (v := (7 : Int32)) hx hb dX5_lowFactor_16 (by decide) ?_
    refine lv_icmp_ne (tgt := 32) hx hb dX5_lowFactor_18 (by decide) (fun h2 => ?_) (fun h2 => ?_)
    · have hf := pq_brf hf h2
      refine pq_gets C hh z2 kf89 dX5_lowFactor_32 ?_
      refine lv_iload_n hx hb dX5_lowFactor_35 rfl (lv_at hl 0 rfl) ?_
      refine lv_iconst (v := (2 : Int32)) hx hb dX5_lowFactor_36 (by decide) ?_
      refine lv_ishr hx hb dX5_lowFactor_37 ?_
      refine lv_bipush (v := (15 : Int32)) hx hb dX5_lowFactor_38 (by decide) ?_
      refine lv_iand hx hb dX5_lowFactor_40 ?_
      obtain ⟨h3, hf⟩ := pq_rdx hf
      refine pq_ti C hh T2 h3 dX5_lowFactor_41 (fun v4 e5 => ?_)
      have hf := hf v4 e5
      obtain rfl := Option.some.inj hf
      exact hret _ _ _ ls hh dX5_lowFactor_42 rfl
    · have hf := pq_brt hf h2
      refine pq_gets C hh z12 kf86 dX5_lowFactor_21 ?_
      refine lv_iload_n hx hb dX5_lowFactor_24 rfl (lv_at hl 0 rfl) ?_
      refine lv_iconst (v := (1 : Int32)) hx hb dX5_lowFactor_25 (by decide) ?_
      refine lv_ishr hx hb dX5_lowFactor_26 ?_
      refine lv_bipush (v := (31 : Int32)) hx hb dX5_lowFactor_27 (by decide) ?_
      refine lv_iand hx hb dX5_lowFactor_29 ?_
      obtain ⟨h6, hf⟩ := pq_rdx hf
      refine pq_ti C hh T12 h6 dX5_lowFactor_30 (fun v7 e8 => ?_)
      have hf := hf v7 e8
      obtain rfl := Option.some.inj hf
      exact hret _ _ _ ls hh dX5_lowFactor_31 rfl
  · have hf := pq_brt hf h1
    refine pq_gets C hh z11 kf83 dX5_lowFactor_6 ?_
    refine lv_iload_n hx hb dX5_lowFactor_9 rfl (lv_at hl 0 rfl) ?_
    refine lv_bipush (v := (63 : Int32)) hx hb dX5_lowFactor_10 (by decide) ?_
    refine lv_iand hx hb dX5_lowFactor_12 ?_
    obtain ⟨h9, hf⟩ := pq_rdx hf
    refine pq_ti C hh T11 h9 dX5_lowFactor_13 (fun v10 e11 => ?_)
    have hf := hf v10 e11
    obtain rfl := Option.some.inj hf
    exact hret _ _ _ ls hh dX5_lowFactor_14 rfl
set_option maxHeartbeats 4000000 in
set_option maxRecDepth 100000 in
theorem qX5_decode (l : Launch) (D : va_G) (cI cL : ClassId) (th : Nat) (th_low : Nat) (th_low_numbers : Nat) (th_high : Nat) (th_high_numbers : Nat) (th_x : Nat) (c_secondHeard : Int32) (f_low_numbers : Nat → Int32) (f_high_numbers : Nat → Int32) (f_x : Nat → Int32) (a1 : Int32) (a2 : Int32) (res : Int32 × Int32 × (Nat → Int32) × (Nat → Int32) × (Nat → Int32)) (hf : fX5_decode a1 a2 c_secondHeard f_low_numbers f_high_numbers f_x = some res) : pq_CI l yX5_decode qsX5_decode 4 101 D cI cL [.ref th, .int a1, .int a2] (wX5_decode cI th th_low th_low_numbers th_high th_high_numbers th_x c_secondHeard f_low_numbers f_high_numbers f_x) (wX5_decode cI th th_low th_low_numbers th_high th_high_numbers th_x res.2.1 res.2.2.1 res.2.2.2.1 res.2.2.2.2) res.1 := by
  refine pq_mkI (cc := cX5_decode) (maxL := 7) (RT := .int) (by decide) rfl (Nat.le_of_ble_eq_true rfl) ?_
  intro p e s m args below meth c Q A C hh hret ls hl
  have hx := C.1
  have hb := C.2.1
  have hml := C.2.2.1
  have hown : s.vm.findClass RX5 = some m.cls := C.2.2.2.1
  have hs : ∀ w ∈ wsL_law, w ∈ qsX5_decode := fun _ h => List.mem_cons_of_mem _ h
  have htw : ∀ w ∈ wsL_law, w.before args s = true := fun w h => C.2.2.2.2.1 w (hs w h)
  have hl : lv_has ls 7 [(0, .ref th), (1, .int a1), (2, .int a2)] := hl
  have i5 : ∀ w ∈ wsX50, w ∈ qsX5_decode := fun w h => hs w (pq_i5 w h)
  have kf12 := htw (.fieldLink RX5 12 "VoiceDesk$Wideband" "low" "LVoiceDesk$Band;") (pq_m3 _ (List.mem_of_getElem? (i := 3) rfl))
  have kf18 := htw (.fieldLink RX5 18 "VoiceDesk$Wideband" "high" "LVoiceDesk$Band;") (pq_m3 _ (List.mem_of_getElem? (i := 4) rfl))
  have kf25 := htw (.fieldLink RX5 25 "VoiceDesk$Wideband" "secondHeard" "I") (pq_m3 _ (List.mem_of_getElem? (i := 6) rfl))
  have kf68 := htw (.fieldLink RX5 68 "VoiceDesk$Wideband" "V" "[I") (pq_m9 _ (List.mem_of_getElem? (i := 18) rfl))
  have kiRX6 := htw (.initialized RX6) (pq_m1 _ (List.mem_of_getElem? (i := 2) rfl))
  have ks71 := htw (.static yX6_limited) (pq_m8 _ (List.mem_of_getElem? (i := 21) rfl))
  obtain ⟨t5, z5, T5⟩ := pq_tab C 5 rfl
  rw [fX5_decode] at hf
  refine lv_iload_n hx hb dX5_decode_0 rfl (lv_at hl 1 rfl) ?_
  refine lv_bipush (v := (63 : Int32)) hx hb dX5_decode_1 (by decide) ?_
  refine lv_iand hx hb dX5_decode_3 ?_
  refine lv_topi (fun v1 e2 => ?_)
  have hf := pq_nmx hf v1 e2
  refine lv_istore_n (lv' := [(3, .int v1), (0, .ref th), (1, .int a1), (2, .int a2)]) hx hb dX5_decode_4 rfl hl (by decide) rfl (fun ls hl => ?_)
  refine lv_iload_n hx hb dX5_decode_5 rfl (lv_at hl 2 rfl) ?_
  refine lv_bipush (v := (6 : Int32)) hx hb dX5_decode_6 (by decide) ?_
  refine lv_ishr hx hb dX5_decode_8 ?_
  refine lv_iconst (v := (3 : Int32)) hx hb dX5_decode_9 (by decide) ?_
  refine lv_iand hx hb dX5_decode_10 ?_
  refine lv_topi (fun v3 e4 => ?_)
  have hf := pq_nmx hf v3 e4
  refine lv_istore (lv' := [(4, .int v3), (3, .int v1), (0, .ref th), (1, .int a1), (2, .int a2)]) hx hb dX5_decode_11 hl (by decide) rfl (fun ls hl => ?_)
  refine lv_aload_n hx hb dX5_decode_13 rfl (lv_at hl 2 rfl) ?_
  refine pq_get C hh i5 0 4 rfl rfl 0 (by decide) kf12 rfl rfl dX5_decode_14 ?_
  refine lv_iload_n hx hb dX5_decode_17 rfl (lv_at hl 1 rfl) ?_
  refine lv_iload_n hx hb dX5_decode_18 rfl (lv_at hl 4 rfl) ?_
  obtain ⟨r5, hu6, hf⟩ := pq_clx hf
  refine pq_csI (n := 2) (As := [.int v1, .int a2]) C hh (qX5_lowFactor l D cI cL v1 a2 r5 hu6) (gsX5_lowFactor hs (pq_m21 _ (List.mem_of_getElem? (i := 17) rfl))) rfl (by decide +kernel) ⟨Nat.le_of_ble_eq_true rfl, Nat.le_of_ble_eq_true rfl⟩ hl.1 rfl rfl (Nat.le_of_ble_eq_true rfl) dX5_decode_19 ⟨Nat.zero_le _, Nat.zero_le _⟩ [] [0, 1, 2, 3, 4, 5] [0, 1, 2, 3, 4, 5] rfl rfl (by decide) (by decide) (by decide) rfl (fun H locs (hh : pq_H D A s (wX5_decode cI th th_low th_low_numbers th_high th_high_numbers th_x c_secondHeard f_low_numbers f_high_numbers f_x) H locs) => ?_)
  obtain ⟨r7, hu8, hf⟩ := pq_clx hf
  refine pq_cvI (n := 1) (As := [.int r5]) C hh (qX1_heard l D cI cL th_low th_low_numbers f_low_numbers r5 r7 hu8) (gvX1_heard hs (pq_m21 _ (List.mem_of_getElem? (i := 22) rfl))) rfl (by decide +kernel) ⟨Nat.le_of_ble_eq_true rfl, Nat.le_of_ble_eq_true rfl⟩ 1 1 rfl rfl rfl hl.1 rfl rfl (Nat.le_of_ble_eq_true rfl) dX5_decode_22 ⟨Nat.zero_le _, Nat.zero_le _⟩ [1, 2] [0, 3, 4, 5] [0, 4, 5, 1, 2, 3] rfl rfl (by decide) (by decide) (by decide) rfl (fun H locs (hh : pq_H D A s (wX5_decode cI th th_low th_low_numbers th_high th_high_numbers th_x c_secondHeard f_low_numbers f_high_numbers f_x) H locs) => ?_)
  refine lv_istore (lv' := [(5, .int r7), (4, .int v3), (3, .int v1), (0, .ref th), (1, .int a1), (2, .int a2)]) hx hb dX5_decode_25 hl (by decide) rfl (fun ls hl => ?_)
  refine lv_aload_n hx hb dX5_decode_27 rfl (lv_at hl 3 rfl) ?_
  refine pq_get C hh i5 0 4 rfl rfl 1 (by decide) kf18 rfl rfl dX5_decode_28 ?_
  refine pq_gets C hh z5 kf68 dX5_decode_31 ?_
  refine lv_iload hx hb dX5_decode_34 (lv_at hl 1 rfl) ?_
  obtain ⟨h9, hf⟩ := pq_rdx hf
  refine pq_ti C hh T5 h9 dX5_decode_36 (fun v10 e11 => ?_)
  have hf := hf v10 e11
  obtain ⟨r12, hu13, hf⟩ := pq_clx hf
  refine pq_cvI (n := 1) (As := [.int v10]) C hh (qX1_heard l D cI cL th_high th_high_numbers f_high_numbers v10 r12 hu13) (gvX1_heard hs (pq_m21 _ (List.mem_of_getElem? (i := 22) rfl))) rfl (by decide +kernel) ⟨Nat.le_of_ble_eq_true rfl, Nat.le_of_ble_eq_true rfl⟩ 3 1 rfl rfl rfl hl.1 rfl rfl (Nat.le_of_ble_eq_true rfl) dX5_decode_37 ⟨Nat.zero_le _, Nat.zero_le _⟩ [3, 4] [0, 1, 2, 5] [0, 1, 2, 4, 5, 3] rfl rfl (by decide) (by decide) (by decide) rfl (fun H locs (hh : pq_H D A s (wX5_decode cI th th_low th_low_numbers th_high th_high_numbers th_x c_secondHeard f_low_numbers f_high_numbers f_x) H locs) => ?_)
  refine lv_istore (lv' := [(6, .int r12), (5, .int r7), (4, .int v3), (3, .int v1), (0, .ref th), (1, .int a1), (2, .int a2)]) hx hb dX5_decode_40 hl (by decide) rfl (fun ls hl => ?_)
  refine lv_aload_n hx hb dX5_decode_42 rfl (lv_at hl 4 rfl) ?_
  refine lv_iload_n hx hb dX5_decode_43 rfl (lv_at hl 3 rfl) ?_
  refine lv_iload hx hb dX5_decode_44 (lv_at hl 2 rfl) ?_
  obtain ⟨⟨f14, f15⟩, hu16, hf⟩ := pq_clx hf
  have hf := pq_nmx hf f14 rfl
  have hf := pq_nmx hf f15 rfl
  refine pq_cvV (n := 2) (As := [.int v1, .int v3]) C hh (qX5_settle l D cI cL th th_x th_low th_low_numbers th_high th_high_numbers c_secondHeard f_low_numbers f_high_numbers v1 v3 (f14, f15) hu16) (gvX5_settle hs (pq_m9 _ (List.mem_of_getElem? (i := 12) rfl))) rfl (by decide +kernel) ⟨Nat.le_of_ble_eq_true rfl, Nat.le_of_ble_eq_true rfl⟩ 0 4 rfl rfl rfl hl.1 rfl rfl (Nat.le_of_ble_eq_true rfl) dX5_decode_46 ⟨Nat.zero_le _, Nat.zero_le _⟩ [0, 1, 2, 3, 4] [5] [1, 2, 3, 4, 5, 0] rfl rfl (by decide) (by decide) (by decide) rfl (fun H locs (hh : pq_H D A s (wX5_decode cI th th_low th_low_numbers th_high th_high_numbers th_x c_secondHeard f14 f15 f_x) H locs) => ?_)
  refine lv_aload_n hx hb dX5_decode_49 rfl (lv_at hl 4 rfl) ?_
  refine lv_iload hx hb dX5_decode_50 (lv_at hl 1 rfl) ?_
  refine lv_iload hx hb dX5_decode_52 (lv_at hl 0 rfl) ?_
  refine lv_iadd hx hb dX5_decode_54 ?_
  refine lv_iload hx hb dX5_decode_55 (lv_at hl 1 rfl) ?_
  refine lv_iload hx hb dX5_decode_57 (lv_at hl 0 rfl) ?_
  refine lv_isub hx hb dX5_decode_59 ?_
  obtain ⟨f18, hu19, hf⟩ := pq_clx hf
  refine pq_cvV (n := 2) (As := [.int (r7 + r12), .int (r7 - r12)]) C hh (qX5_push l D cI cL th th_low th_high th_x c_secondHeard f_x (r7 + r12) (r7 - r12) f18 hu19) (gvX5_push hs (pq_m8 _ (List.mem_of_getElem? (i := 4) rfl))) rfl (by decide +kernel) ⟨Nat.le_of_ble_eq_true rfl, Nat.le_of_ble_eq_true rfl⟩ 0 4 rfl rfl rfl hl.1 rfl rfl (Nat.le_of_ble_eq_true rfl) dX5_decode_60 ⟨Nat.zero_le _, Nat.zero_le _⟩ [0, 5] [1, 2, 3, 4] [4, 0, 1, 2, 3, 5] rfl rfl (by decide) (by decide) (by decide) rfl (fun H locs (hh : pq_H D A s (wX5_decode cI th th_low th_low_numbers th_high th_high_numbers th_x c_secondHeard f14 f15 f18) H locs) => ?_)
  refine lv_aload_n hx hb dX5_decode_63 rfl (lv_at hl 4 rfl) ?_
  refine lv_aload_n hx hb dX5_decode_64 rfl (lv_at hl 4 rfl) ?_
  obtain ⟨r20, hu21, hf⟩ := pq_clx hf
  refine pq_cvI (n := 0) (As := []) C hh (qX5_evenSum l D cI cL th th_low th_high th_x c_secondHeard f18 r20 hu21) (gvX5_evenSum hs (pq_m8 _ (List.mem_of_getElem? (i := 8) rfl))) rfl (by decide +kernel) ⟨Nat.le_of_ble_eq_true rfl, Nat.le_of_ble_eq_true rfl⟩ 0 4 rfl rfl rfl hl.1 rfl rfl (Nat.le_of_ble_eq_true rfl) dX5_decode_65 ⟨Nat.zero_le _, Nat.zero_le _⟩ [0, 5] [1, 2, 3, 4] [4, 0, 1, 2, 3, 5] rfl rfl (by decide) (by decide) (by decide) rfl (fun H locs (hh : pq_H D A s (wX5_decode cI th th_low th_low_numbers th_high th_high_numbers th_x c_secondHeard f14 f15 f18) H locs) => ?_)
  refine lv_bipush (v := (11 : Int32)) hx hb dX5_decode_68 (by decide) ?_
  refine lv_ishr hx hb dX5_decode_70 ?_
  obtain ⟨r22, hu23, hf⟩ := pq_clx hf
  refine pq_cnI (n := 1) (As := [.int (r20 >>> ((11 : Int32) &&& 31))]) C hh (qX6_limited l D cI cL (r20 >>> ((11 : Int32) &&& 31)) r22 hu23) (gnX6_limited hs) rfl (List.mem_of_getElem? (i := 11) rfl) ks71 kiRX6 (by decide +kernel) ⟨Nat.le_of_ble_eq_true rfl, Nat.le_of_ble_eq_true rfl⟩ hl.1 rfl rfl (Nat.le_of_ble_eq_true rfl) dX5_decode_71 ⟨Nat.zero_le _, Nat.zero_le _⟩ [] [0, 1, 2, 3, 4, 5] [0, 1, 2, 3, 4, 5] rfl rfl (by decide) (by decide) (by decide) rfl (fun H locs (hh : pq_H D A s (wX5_decode cI th th_low th_low_numbers th_high th_high_numbers th_x c_secondHeard f14 f15 f18) H locs) => ?_)
  refine pq_put (ty := .int) (v := .int r22) C hh i5 tyX5 tyX5_ok nmX5 0 4 rfl rfl 3 (by decide) kf25 rfl rfl (by decide +kernel) rfl rfl (Nat.le_of_ble_eq_true rfl) dX5_decode_74 (fun H locs (hh : pq_H D A s (wX5_decode cI th th_low th_low_numbers th_high th_high_numbers th_x r22 f14 f15 f18) H locs) => ?_)
  refine lv_aload_n hx hb dX5_decode_77 rfl (lv_at hl 4 rfl) ?_
  obtain ⟨r24, hu25, hf⟩ := pq_clx hf
  refine pq_cvI (n := 0) (As := []) C hh (qX5_oddSum l D cI cL th th_low th_high th_x r22 f18 r24 hu25) (gvX5_oddSum hs (pq_m8 _ (List.mem_of_getElem? (i := 13) rfl))) rfl (by decide +kernel) ⟨Nat.le_of_ble_eq_true rfl, Nat.le_of_ble_eq_true rfl⟩ 0 4 rfl rfl rfl hl.1 rfl rfl (Nat.le_of_ble_eq_true rfl) dX5_decode_78 ⟨Nat.zero_le _, Nat.zero_le _⟩ [0, 5] [1, 2, 3, 4] [4, 0, 1, 2, 3, 5] rfl rfl (by decide) (by decide) (by decide) rfl (fun H locs (hh : pq_H D A s (wX5_decode cI th th_low th_low_numbers th_high th_high_numbers th_x r22 f14 f15 f18) H locs) => ?_)
  refine lv_bipush (v := (11 : Int32)) hx hb dX5_decode_81 (by decide) ?_
  refine lv_ishr hx hb dX5_decode_83 ?_
  obtain ⟨r26, hu27, hf⟩ := pq_clx hf
  refine pq_cnI (n := 1) (As := [.int (r24 >>> ((11 : Int32) &&& 31))]) C hh (qX6_limited l D cI cL (r24 >>> ((11 : Int32) &&& 31)) r26 hu27) (gnX6_limited hs) rfl (List.mem_of_getElem? (i := 11) rfl) ks71 kiRX6 (by decide +kernel) ⟨Nat.le_of_ble_eq_true rfl, Nat.le_of_ble_eq_true rfl⟩ hl.1 rfl rfl (Nat.le_of_ble_eq_true rfl) dX5_decode_84 ⟨Nat.zero_le _, Nat.zero_le _⟩ [] [0, 1, 2, 3, 4, 5] [0, 1, 2, 3, 4, 5] rfl rfl (by decide) (by decide) (by decide) rfl (fun H locs (hh : pq_H D A s (wX5_decode cI th th_low th_low_numbers th_high th_high_numbers th_x r22 f14 f15 f18) H locs) => ?_)
  obtain rfl := Option.some.inj hf
  exact hret _ _ _ ls hh dX5_decode_87 rfl
