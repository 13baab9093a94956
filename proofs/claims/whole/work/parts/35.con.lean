set_option maxHeartbeats 4000000 in
set_option maxRecDepth 100000 in
theorem qX4_decode (l : Launch) (D : va_G) (cI cL : ClassId) (th : Nat) (th_adpcmSpeaker : Nat) (th_wideSpeaker : Nat) (th_adpcmHearer : Nat) (th_adpcmHearer_numbers : Nat) (th_wideHearer : Nat) (th_wideHearer_low : Nat) (th_wideHearer_low_numbers : Nat) (th_wideHearer_high : Nat) (th_wideHearer_high_numbers : Nat) (th_wideHearer_x : Nat) (c_kind : Int32) (c_adpcmHearer_bits : Int32) (c_adpcmHearer_se : Int32) (c_adpcmHearer_sz : Int32) (c_adpcmHearer_step : Int32) (f_adpcmHearer_numbers : Nat → Int32) (c_wideHearer_secondHeard : Int32) (f_wideHearer_low_numbers : Nat → Int32) (f_wideHearer_high_numbers : Nat → Int32) (f_wideHearer_x : Nat → Int32) (a1 : Int32) (res : Int32 × Int32 × Int32 × Int32 × (Nat → Int32) × Int32 × (Nat → Int32) × (Nat → Int32) × (Nat → Int32)) (hf : fX4_decode a1 c_kind c_adpcmHearer_bits c_adpcmHearer_se c_adpcmHearer_sz c_adpcmHearer_step f_adpcmHearer_numbers c_wideHearer_secondHeard f_wideHearer_low_numbers f_wideHearer_high_numbers f_wideHearer_x = some res) : pq_CI l yX4_decode qsX4_decode 5 127 D cI cL [.ref th, .int a1] (wX4_decode cI th th_adpcmSpeaker th_wideSpeaker th_adpcmHearer th_adpcmHearer_numbers th_wideHearer th_wideHearer_low th_wideHearer_low_numbers th_wideHearer_high th_wideHearer_high_numbers th_wideHearer_x c_kind c_adpcmHearer_bits c_adpcmHearer_se c_adpcmHearer_sz c_adpcmHearer_step f_adpcmHearer_numbers c_wideHearer_secondHeard f_wideHearer_low_numbers f_wideHearer_high_numbers f_wideHearer_x) (wX4_decode cI th th_adpcmSpeaker th_wideSpeaker th_adpcmHearer th_adpcmHearer_numbers th_wideHearer th_wideHearer_low th_wideHearer_low_numbers th_wideHearer_high th_wideHearer_high_numbers th_wideHearer_x c_kind c_adpcmHearer_bits res.2.1 res.2.2.1 res.2.2.2.1 res.2.2.2.2.1 res.2.2.2.2.2.1 res.2.2.2.2.2.2.1 res.2.2.2.2.2.2.2.1 res.2.2.2.2.2.2.2.2) res.1 := by
  refine pq_mkI (cc := cX4_decode) (maxL := 2) (RT := .int) (by decide) rfl (Nat.le_of_ble_eq_true rfl) ?_
  intro p e s m args below meth c Q A C hh hret ls hl
  have hx := C.1
  have hb := C.2.1
  have hml := C.2.2.1
  have hown : s.vm.findClass RX4 = some m.cls := C.2.2.2.1
  have hs : ∀ w ∈ wsL_law, w ∈ qsX4_decode := fun _ h => List.mem_cons_of_mem _ h
  have htw : ∀ w ∈ wsL_law, w.before args s = true := fun w h => C.2.2.2.2.1 w (hs w h)
  have hl : lv_has ls 2 [(0, .ref th), (1, .int a1)] := hl
  have i4 : ∀ w ∈ wsX40, w ∈ qsX4_decode := fun w h => hs w (pq_i4 w h)
  have kf18 := htw (.fieldLink RX4 18 "VoiceDesk$Line" "adpcmHearer" "LVoiceDesk$Adpcm;") (pq_m2 _ (List.mem_of_getElem? (i := 4) rfl))
  have kf28 := htw (.fieldLink RX4 28 "VoiceDesk$Line" "wideHearer" "LVoiceDesk$Wideband;") (pq_m2 _ (List.mem_of_getElem? (i := 9) rfl))
  have kf32 := htw (.fieldLink RX4 32 "VoiceDesk$Line" "kind" "I") (pq_m2 _ (List.mem_of_getElem? (i := 11) rfl))
  rw [fX4_decode] at hf
  refine lv_aload_n hx hb dX4_decode_0 rfl (lv_at hl 0 rfl) ?_
  obtain ⟨r1, hu2, hf⟩ := pq_clx hf
  refine pq_cvI (n := 0) (As := []) C hh (qX4_isWide l D cI cL th th_adpcmSpeaker th_adpcmHearer th_wideSpeaker th_wideHearer c_kind r1 hu2) (gvX4_isWide hs (pq_m6 _ (List.mem_of_getElem? (i := 1) rfl))) rfl (by decide +kernel) ⟨Nat.le_of_ble_eq_true rfl, Nat.le_of_ble_eq_true rfl⟩ 0 3 rfl rfl rfl hl.1 rfl rfl (Nat.le_of_ble_eq_true rfl) dX4_decode_1 ⟨Nat.zero_le _, Nat.zero_le _⟩ [0] [1, 2, 3, 4, 5, 6, 7, 8] [8, 0, 1, 2, 3, 4, 5, 6, 7] rfl rfl (by decide) (by decide) (by decide) rfl (fun H locs (hh : pq_H D A s (wX4_decode cI th th_adpcmSpeaker th_wideSpeaker th_adpcmHearer th_adpcmHearer_numbers th_wideHearer th_wideHearer_low th_wideHearer_low_numbers th_wideHearer_high th_wideHearer_high_numbers th_wideHearer_x c_kind c_adpcmHearer_bits c_adpcmHearer_se c_adpcmHearer_sz c_adpcmHearer_step f_adpcmHearer_numbers c_wideHearer_secondHeard f_wideHearer_low_numbers f_wideHearer_high_numbers f_wideHearer_x) H locs) => ?_)
  refine lv_if_eq (tgt := 20) hx hb dX4_decode_4 (by decide) (fun h3 => ?_) (fun h3 => ?_)
  · have hf := pq_brt hf h3
    refine lv_aload_n hx hb dX4_decode_20 rfl (lv_at hl 0 rfl) ?_
    obtain ⟨r4, hu5, hf⟩ := pq_clx hf
    refine pq_cvI (n := 0) (As := []) C hh (qX4_isAdpcm l D cI cL th th_adpcmSpeaker th_adpcmHearer th_wideSpeaker th_wideHearer c_kind r4 hu5) (gvX4_isAdpcm hs (pq_m5 _ (List.mem_of_getElem? (i := 16) rfl))) rfl (by decide +kernel) ⟨Nat.le_of_ble_eq_true rfl, Nat.le_of_ble_eq_true rfl⟩ 0 3 rfl rfl rfl hl.1 rfl rfl (Nat.le_of_ble_eq_true rfl) dX4_decode_21 ⟨Nat.zero_le _, Nat.zero_le _⟩ [0] [1, 2, 3, 4, 5, 6, 7, 8] [8, 0, 1, 2, 3, 4, 5, 6, 7] rfl rfl (by decide) (by decide) (by decide) rfl (fun H locs (hh : pq_H D A s (wX4_decode cI th th_adpcmSpeaker th_wideSpeaker th_adpcmHearer th_adpcmHearer_numbers th_wideHearer th_wideHearer_low th_wideHearer_low_numbers th_wideHearer_high th_wideHearer_high_numbers th_wideHearer_x c_kind c_adpcmHearer_bits c_adpcmHearer_se c_adpcmHearer_sz c_adpcmHearer_step f_adpcmHearer_numbers c_wideHearer_secondHeard f_wideHearer_low_numbers f_wideHearer_high_numbers f_wideHearer_x) H locs) => ?_)
    refine lv_if_eq (tgt := 36) hx hb dX4_decode_24 (by decide) (fun h6 => ?_) (fun h6 => ?_)
    · have hf := pq_brt hf h6
      refine lv_aload_n hx hb dX4_decode_36 rfl (lv_at hl 0 rfl) ?_
      refine pq_get C hh i4 0 3 rfl rfl 4 (by decide) kf32 rfl rfl dX4_decode_37 ?_
      refine lv_if_ne (tgt := 50) hx hb dX4_decode_40 (by decide) (fun h7 => ?_) (fun h7 => ?_)
      · have hf := pq_brf hf h7
        refine lv_iload_n hx hb dX4_decode_50 rfl (lv_at hl 1 rfl) ?_
        obtain ⟨r8, hu9, hf⟩ := pq_clx hf
        refine pq_csI (n := 1) (As := [.int a1]) C hh (qX3_aSample l D cI cL a1 r8 hu9) (gsX3_aSample hs (pq_m22 _ (List.mem_of_getElem? (i := 9) rfl))) rfl (by decide +kernel) ⟨Nat.le_of_ble_eq_true rfl, Nat.le_of_ble_eq_true rfl⟩ hl.1 rfl rfl (Nat.le_of_ble_eq_true rfl) dX4_decode_51 ⟨Nat.zero_le _, Nat.zero_le _⟩ [] [0, 1, 2, 3, 4, 5, 6, 7, 8] [0, 1, 2, 3, 4, 5, 6, 7, 8] rfl rfl (by decide) (by decide) (by decide) rfl (fun H locs (hh : pq_H D A s (wX4_decode cI th th_adpcmSpeaker th_wideSpeaker th_adpcmHearer th_adpcmHearer_numbers th_wideHearer th_wideHearer_low th_wideHearer_low_numbers th_wideHearer_high th_wideHearer_high_numbers th_wideHearer_x c_kind c_adpcmHearer_bits c_adpcmHearer_se c_adpcmHearer_sz c_adpcmHearer_step f_adpcmHearer_numbers c_wideHearer_secondHeard f_wideHearer_low_numbers f_wideHearer_high_numbers f_wideHearer_x) H locs) => ?_)
        obtain rfl := Option.some.inj hf
        exact hret _ _ _ ls hh dX4_decode_54 rfl
      · have hf := pq_brt hf h7
        refine lv_iload_n hx hb dX4_decode_43 rfl (lv_at hl 1 rfl) ?_
        obtain ⟨r10, hu11, hf⟩ := pq_clx hf
        refine pq_csI (n := 1) (As := [.int a1]) C hh (qX3_muSample l D cI cL a1 r10 hu11) (gsX3_muSample hs (pq_m22 _ (List.mem_of_getElem? (i := 6) rfl))) rfl (by decide +kernel) ⟨Nat.le_of_ble_eq_true rfl, Nat.le_of_ble_eq_true rfl⟩ hl.1 rfl rfl (Nat.le_of_ble_eq_true rfl) dX4_decode_44 ⟨Nat.zero_le _, Nat.zero_le _⟩ [] [0, 1, 2, 3, 4, 5, 6, 7, 8] [0, 1, 2, 3, 4, 5, 6, 7, 8] rfl rfl (by decide) (by decide) (by decide) rfl (fun H locs (hh : pq_H D A s (wX4_decode cI th th_adpcmSpeaker th_wideSpeaker th_adpcmHearer th_adpcmHearer_numbers th_wideHearer th_wideHearer_low th_wideHearer_low_numbers th_wideHearer_high th_wideHearer_high_numbers th_wideHearer_x c_kind c_adpcmHearer_bits c_adpcmHearer_se c_adpcmHearer_sz c_adpcmHearer_step f_adpcmHearer_numbers c_wideHearer_secondHeard f_wideHearer_low_numbers f_wideHearer_high_numbers f_wideHearer_x) H locs) => ?_)
        refine lv_goto (tgt := 54) hx hb dX4_decode_47 (by decide) ?_
        obtain rfl := Option.some.inj hf
        exact hret _ _ _ ls hh dX4_decode_54 rfl
    · have hf := pq_brf hf h6
      refine lv_aload_n hx hb dX4_decode_27 rfl (lv_at hl 0 rfl) ?_
      refine pq_get C hh i4 0 3 rfl rfl 1 (by decide) kf18 rfl rfl dX4_decode_28 ?_
      refine lv_iload_n hx hb dX4_decode_31 rfl (lv_at hl 1 rfl) ?_
      obtain ⟨⟨r12, c13, c14, c15, f16⟩, hu17, hf⟩ := pq_clx hf
      have hf := pq_nmx hf r12 rfl
      have hf := pq_nmx hf c13 rfl
      have hf := pq_nmx hf c14 rfl
      have hf := pq_nmx hf c15 rfl
      have hf := pq_nmx hf f16 rfl
      refine pq_cvI (n := 1) (As := [.int a1]) C hh (qX0_decode l D cI cL th_adpcmHearer th_adpcmHearer_numbers c_adpcmHearer_bits c_adpcmHearer_se c_adpcmHearer_sz c_adpcmHearer_step f_adpcmHearer_numbers a1 (r12, c13, c14, c15, f16) hu17) (gvX0_decode hs (pq_m22 _ (List.mem_of_getElem? (i := 2) rfl))) rfl (by decide +kernel) ⟨Nat.le_of_ble_eq_true rfl, Nat.le_of_ble_eq_true rfl⟩ 1 0 rfl rfl rfl hl.1 rfl rfl (Nat.le_of_ble_eq_true rfl) dX4_decode_32 ⟨Nat.zero_le _, Nat.zero_le _⟩ [1, 2] [0, 3, 4, 5, 6, 7, 8] [0, 7, 8, 1, 2, 3, 4, 5, 6] rfl rfl (by decide) (by decide) (by decide) rfl (fun H locs (hh : pq_H D A s (wX4_decode cI th th_adpcmSpeaker th_wideSpeaker th_adpcmHearer th_adpcmHearer_numbers th_wideHearer th_wideHearer_low th_wideHearer_low_numbers th_wideHearer_high th_wideHearer_high_numbers th_wideHearer_x c_kind c_adpcmHearer_bits c13 c14 c15 f16 c_wideHearer_secondHeard f_wideHearer_low_numbers f_wideHearer_high_numbers f_wideHearer_x) H locs) => ?_)
      obtain rfl := Option.some.inj hf
      exact hret _ _ _ ls hh dX4_decode_35 rfl
  · have hf := pq_brf hf h3
    refine lv_aload_n hx hb dX4_decode_7 rfl (lv_at hl 0 rfl) ?_
    refine pq_get C hh i4 0 3 rfl rfl 3 (by decide) kf28 rfl rfl dX4_decode_8 ?_
    refine lv_iload_n hx hb dX4_decode_11 rfl (lv_at hl 1 rfl) ?_
    refine lv_aload_n hx hb dX4_decode_12 rfl (lv_at hl 0 rfl) ?_
    refine pq_get C hh i4 0 3 rfl rfl 4 (by decide) kf32 rfl rfl dX4_decode_13 ?_
    obtain ⟨⟨r19, c20, f21, f22, f23⟩, hu24, hf⟩ := pq_clx hf
    have hf := pq_nmx hf r19 rfl
    have hf := pq_nmx hf c20 rfl
    have hf := pq_nmx hf f21 rfl
    have hf := pq_nmx hf f22 rfl
    have hf := pq_nmx hf f23 rfl
    refine pq_cvI (n := 2) (As := [.int a1, .int c_kind]) C hh (qX5_decode l D cI cL th_wideHearer th_wideHearer_low th_wideHearer_low_numbers th_wideHearer_high th_wideHearer_high_numbers th_wideHearer_x c_wideHearer_secondHeard f_wideHearer_low_numbers f_wideHearer_high_numbers f_wideHearer_x a1 c_kind (r19, c20, f21, f22, f23) hu24) (gvX5_decode hs (pq_m21 _ (List.mem_of_getElem? (i := 13) rfl))) rfl (by decide +kernel) ⟨Nat.le_of_ble_eq_true rfl, Nat.le_of_ble_eq_true rfl⟩ 3 4 rfl rfl rfl hl.1 rfl rfl (Nat.le_of_ble_eq_true rfl) dX4_decode_16 ⟨Nat.zero_le _, Nat.zero_le _⟩ [3, 4, 5, 6, 7, 8] [0, 1, 2] [0, 1, 2, 3, 4, 5, 6, 7, 8] rfl rfl (by decide) (by decide) (by decide) rfl (fun H locs (hh : pq_H D A s (wX4_decode cI th th_adpcmSpeaker th_wideSpeaker th_adpcmHearer th_adpcmHearer_numbers th_wideHearer th_wideHearer_low th_wideHearer_low_numbers th_wideHearer_high th_wideHearer_high_numbers th_wideHearer_x c_kind c_adpcmHearer_bits c_adpcmHearer_se c_adpcmHearer_sz c_adpcmHearer_step f_adpcmHearer_numbers c20 f21 f22 f23) H locs) => ?_)
    obtain rfl := Option.some.inj hf
    exact hret _ _ _ ls hh dX4_decode_19 rfl
set_option maxHeartbeats 4000000 in
set_option maxRecDepth 100000 in
theorem qX4_secondHeard (l : Launch) (D : va_G) (cI cL : ClassId) (th : Nat) (th_adpcmSpeaker : Nat) (th_adpcmHearer : Nat) (th_wideSpeaker : Nat) (th_wideHearer : Nat) (th_wideHearer_low : Nat) (th_wideHearer_high : Nat) (th_wideHearer_x : Nat) (c_kind : Int32) (c_wideHearer_secondHeard : Int32) (res : Int32) (hf : fX4_secondHeard c_wideHearer_secondHeard = some res) : pq_CI l yX4_secondHeard qsX4_secondHeard 0 0 D cI cL [.ref th] (wX4_secondHeard cI th th_adpcmSpeaker th_adpcmHearer th_wideSpeaker th_wideHearer th_wideHearer_low th_wideHearer_high th_wideHearer_x c_kind c_wideHearer_secondHeard) (wX4_secondHeard cI th th_adpcmSpeaker th_adpcmHearer th_wideSpeaker th_wideHearer th_wideHearer_low th_wideHearer_high th_wideHearer_x c_kind c_wideHearer_secondHeard) res := by
  refine pq_mkI (cc := cX4_secondHeard) (maxL := 1) (RT := .int) (by decide) rfl (Nat.le_of_ble_eq_true rfl) ?_
  intro p e s m args below meth c Q A C hh hret ls hl
  have hx := C.1
  have hb := C.2.1
  have hml := C.2.2.1
  have hown : s.vm.findClass RX4 = some m.cls := C.2.2.2.1
  have hs : ∀ w ∈ wsL_law, w ∈ qsX4_secondHeard := fun _ h => List.mem_cons_of_mem _ h
  have htw : ∀ w ∈ wsL_law, w.before args s = true := fun w h => C.2.2.2.2.1 w (hs w h)
  have hl : lv_has ls 1 [(0, .ref th)] := hl
  have i4 : ∀ w ∈ wsX40, w ∈ qsX4_secondHeard := fun w h => hs w (pq_i4 w h)
  have i5 : ∀ w ∈ wsX50, w ∈ qsX4_secondHeard := fun w h => hs w (pq_i5 w h)
  have kf28 := htw (.fieldLink RX4 28 "VoiceDesk$Line" "wideHearer" "LVoiceDesk$Wideband;") (pq_m2 _ (List.mem_of_getElem? (i := 9) rfl))
  rw [fX4_secondHeard] at hf
  refine lv_aload_n hx hb dX4_secondHeard_0 rfl (lv_at hl 0 rfl) ?_
  refine pq_get C hh i4 0 3 rfl rfl 3 (by decide) kf28 rfl rfl dX4_secondHeard_1 ?_
  refine pq_getN (host := "VoiceDesk") C hh i5 1 4 rfl rfl 3 (by decide) (List.mem_of_getElem? (i := 0) rfl) rfl rfl dX4_secondHeard_4 ?_
  obtain rfl := Option.some.inj hf
  exact hret _ _ _ ls hh dX4_secondHeard_7 rfl
set_option maxHeartbeats 4000000 in
set_option maxRecDepth 100000 in
theorem qX5_number (l : Launch) (D : va_G) (cI cL : ClassId) (th : Nat) (th_low : Nat) (th_low_numbers : Nat) (th_high : Nat) (th_high_numbers : Nat) (th_x : Nat) (c_secondHeard : Int32) (f_low_numbers : Nat → Int32) (f_high_numbers : Nat → Int32) (f_x : Nat → Int32) (a1 : Int32) (res : Int32) (hf : fX5_number a1 f_low_numbers f_high_numbers f_x = some res) : pq_CI l yX5_number qsX5_number 1 21 D cI cL [.ref th, .int a1] (wX5_number cI th th_low th_low_numbers th_high th_high_numbers th_x c_secondHeard f_low_numbers f_high_numbers f_x) (wX5_number cI th th_low th_low_numbers th_high th_high_numbers th_x c_secondHeard f_low_numbers f_high_numbers f_x) res := by
  refine pq_mkI (cc := cX5_number) (maxL := 2) (RT := .int) (by decide) rfl (Nat.le_of_ble_eq_true rfl) ?_
  intro p e s m args below meth c Q A C hh hret ls hl
  have hx := C.1
  have hb := C.2.1
  have hml := C.2.2.1
  have hown : s.vm.findClass RX5 = some m.cls := C.2.2.2.1
  have hs : ∀ w ∈ wsL_law, w ∈ qsX5_number := fun _ h => List.mem_cons_of_mem _ h
  have htw : ∀ w ∈ wsL_law, w.before args s = true := fun w h => C.2.2.2.2.1 w (hs w h)
  have hl : lv_has ls 2 [(0, .ref th), (1, .int a1)] := hl
  have i5 : ∀ w ∈ wsX50, w ∈ qsX5_number := fun w h => hs w (pq_i5 w h)
  have kc37 := htw (.constant RX5 37 (-100000)) (pq_m25 _ (List.mem_of_getElem? (i := 0) rfl))
  have kf12 := htw (.fieldLink RX5 12 "VoiceDesk$Wideband" "low" "LVoiceDesk$Band;") (pq_m3 _ (List.mem_of_getElem? (i := 3) rfl))
  have kf18 := htw (.fieldLink RX5 18 "VoiceDesk$Wideband" "high" "LVoiceDesk$Band;") (pq_m3 _ (List.mem_of_getElem? (i := 4) rfl))
  have kf21 := htw (.fieldLink RX5 21 "VoiceDesk$Wideband" "x" "[I") (pq_m3 _ (List.mem_of_getElem? (i := 5) rfl))
  rw [fX5_number] at hf
  refine lv_iload_n hx hb dX5_number_0 rfl (lv_at hl 1 rfl) ?_
  refine lv_bipush (v := (30 : Int32)) hx hb dX5_number_1 (by decide) ?_
  refine lv_icmp_ge (tgt := 15) hx hb dX5_number_3 (by decide) (fun h1 => ?_) (fun h1 => ?_)
  · have hf := pq_brt hf h1
    refine lv_iload_n hx hb dX5_number_15 rfl (lv_at hl 1 rfl) ?_
    refine lv_bipush (v := (60 : Int32)) hx hb dX5_number_16 (by decide) ?_
    refine lv_icmp_ge (tgt := 33) hx hb dX5_number_18 (by decide) (fun h2 => ?_) (fun h2 => ?_)
    · have hf := pq_brt hf h2
      refine lv_iload_n hx hb dX5_number_33 rfl (lv_at hl 1 rfl) ?_
      refine lv_bipush (v := (84 : Int32)) hx hb dX5_number_34 (by decide) ?_
      refine lv_icmp_ge (tgt := 51) hx hb dX5_number_36 (by decide) (fun h3 => ?_) (fun h3 => ?_)
      · have hf := pq_brt hf h3
        refine lv_ldc (v := (-100000 : Int32)) hx hb hown kc37 dX5_number_51 ?_
        obtain rfl := Option.some.inj hf
        exact hret _ _ _ ls hh dX5_number_53 rfl
      · have hf := pq_brf hf h3
        refine lv_aload_n hx hb dX5_number_39 rfl (lv_at hl 0 rfl) ?_
        refine pq_get C hh i5 0 4 rfl rfl 2 (by decide) kf21 rfl rfl dX5_number_40 ?_
        refine lv_iload_n hx hb dX5_number_43 rfl (lv_at hl 1 rfl) ?_
        refine lv_bipush (v := (60 : Int32)) hx hb dX5_number_44 (by decide) ?_
        refine lv_isub hx hb dX5_number_46 ?_
        obtain ⟨h4, hf⟩ := pq_rdx hf
        refine pq_iald C hh 5 rfl h4 dX5_number_47 (fun v5 e6 => ?_)
        have hf := hf v5 e6
        refine lv_goto (tgt := 53) hx hb dX5_number_48 (by decide) ?_
        obtain rfl := Option.some.inj hf
        exact hret _ _ _ ls hh dX5_number_53 rfl
    · have hf := pq_brf hf h2
      refine lv_aload_n hx hb dX5_number_21 rfl (lv_at hl 0 rfl) ?_
      refine pq_get C hh i5 0 4 rfl rfl 1 (by decide) kf18 rfl rfl dX5_number_22 ?_
      refine lv_iload_n hx hb dX5_number_25 rfl (lv_at hl 1 rfl) ?_
      refine lv_bipush (v := (30 : Int32)) hx hb dX5_number_26 (by decide) ?_
      refine lv_isub hx hb dX5_number_28 ?_
      obtain ⟨r7, hu8, hf⟩ := pq_clx hf
      refine pq_cvI (n := 1) (As := [.int (a1 - (30 : Int32))]) C hh (qX1_number l D cI cL th_high th_high_numbers f_high_numbers (a1 - (30 : Int32)) r7 hu8) (gvX1_number hs (pq_m25 _ (List.mem_of_getElem? (i := 1) rfl))) rfl (by decide +kernel) ⟨Nat.le_of_ble_eq_true rfl, Nat.le_of_ble_eq_true rfl⟩ 3 1 rfl rfl rfl hl.1 rfl rfl (Nat.le_of_ble_eq_true rfl) dX5_number_29 ⟨Nat.zero_le _, Nat.zero_le _⟩ [3, 4] [0, 1, 2, 5] [0, 1, 2, 4, 5, 3] rfl rfl (by decide) (by decide) (by decide) rfl (fun H locs (hh : pq_H D A s (wX5_number cI th th_low th_low_numbers th_high th_high_numbers th_x c_secondHeard f_low_numbers f_high_numbers f_x) H locs) => ?_)
      obtain rfl := Option.some.inj hf
      exact hret _ _ _ ls hh dX5_number_32 rfl
  · have hf := pq_brf hf h1
    refine lv_aload_n hx hb dX5_number_6 rfl (lv_at hl 0 rfl) ?_
    refine pq_get C hh i5 0 4 rfl rfl 0 (by decide) kf12 rfl rfl dX5_number_7 ?_
    refine lv_iload_n hx hb dX5_number_10 rfl (lv_at hl 1 rfl) ?_
    obtain ⟨r9, hu10, hf⟩ := pq_clx hf
    refine pq_cvI (n := 1) (As := [.int a1]) C hh (qX1_number l D cI cL th_low th_low_numbers f_low_numbers a1 r9 hu10) (gvX1_number hs (pq_m25 _ (List.mem_of_getElem? (i := 1) rfl))) rfl (by decide +kernel) ⟨Nat.le_of_ble_eq_true rfl, Nat.le_of_ble_eq_true rfl⟩ 1 1 rfl rfl rfl hl.1 rfl rfl (Nat.le_of_ble_eq_true rfl) dX5_number_11 ⟨Nat.zero_le _, Nat.zero_le _⟩ [1, 2] [0, 3, 4, 5] [0, 4, 5, 1, 2, 3] rfl rfl (by decide) (by decide) (by decide) rfl (fun H locs (hh : pq_H D A s (wX5_number cI th th_low th_low_numbers th_high th_high_numbers th_x c_secondHeard f_low_numbers f_high_numbers f_x) H locs) => ?_)
    obtain rfl := Option.some.inj hf
    exact hret _ _ _ ls hh dX5_number_14 rfl
set_option maxHeartbeats 4000000 in
set_option maxRecDepth 100000 in
theorem qX4_number (l : Launch) (D : va_G) (cI cL : ClassId) (th : Nat) (th_adpcmSpeaker : Nat) (th_adpcmSpeaker_numbers : Nat) (th_adpcmHearer : Nat) (th_adpcmHearer_numbers : Nat) (th_wideSpeaker : Nat) (th_wideSpeaker_low : Nat) (th_wideSpeaker_low_numbers : Nat) (th_wideSpeaker_high : Nat) (th_wideSpeaker_high_numbers : Nat) (th_wideSpeaker_x : Nat) (th_wideHearer : Nat) (th_wideHearer_low : Nat) (th_wideHearer_low_numbers : Nat) (th_wideHearer_high : Nat) (th_wideHearer_high_numbers : Nat) (th_wideHearer_x : Nat) (c_kind : Int32) (c_adpcmSpeaker_bits : Int32) (c_adpcmSpeaker_se : Int32) (c_adpcmSpeaker_sz : Int32) (c_adpcmSpeaker_step : Int32) (f_adpcmSpeaker_numbers : Nat → Int32) (c_adpcmHearer_bits : Int32) (c_adpcmHearer_se : Int32) (c_adpcmHearer_sz : Int32) (c_adpcmHearer_step : Int32) (f_adpcmHearer_numbers : Nat → Int32) (c_wideSpeaker_secondHeard : Int32) (f_wideSpeaker_low_numbers : Nat → Int32) (f_wideSpeaker_high_numbers : Nat → Int32) (f_wideSpeaker_x : Nat → Int32) (c_wideHearer_secondHeard : Int32) (f_wideHearer_low_numbers : Nat → Int32) (f_wideHearer_high_numbers : Nat → Int32) (f_wideHearer_x : Nat → Int32) (a1 : Int32) (a2 : Int32) (res : Int32) (hf : fX4_number a1 a2 c_kind f_adpcmSpeaker_numbers f_adpcmHearer_numbers f_wideSpeaker_low_numbers f_wideSpeaker_high_numbers f_wideSpeaker_x f_wideHearer_low_numbers f_wideHearer_high_numbers f_wideHearer_x = some res) : pq_CI l yX4_number qsX4_number 2 42 D cI cL [.ref th, .int a1, .int a2] (wX4_number cI th th_adpcmSpeaker th_adpcmSpeaker_numbers th_adpcmHearer th_adpcmHearer_numbers th_wideSpeaker th_wideSpeaker_low th_wideSpeaker_low_numbers th_wideSpeaker_high th_wideSpeaker_high_numbers th_wideSpeaker_x th_wideHearer th_wideHearer_low th_wideHearer_low_numbers th_wideHearer_high th_wideHearer_high_numbers th_wideHearer_x c_kind c_adpcmSpeaker_bits c_adpcmSpeaker_se c_adpcmSpeaker_sz c_adpcmSpeaker_step f_adpcmSpeaker_numbers c_adpcmHearer_bits c_adpcmHearer_se c_adpcmHearer_sz c_adpcmHearer_step f_adpcmHearer_numbers c_wideSpeaker_secondHeard f_wideSpeaker_low_numbers f_wideSpeaker_high_numbers f_wideSpeaker_x c_wideHearer_secondHeard f_wideHearer_low_numbers f_wideHearer_high_numbers f_wideHearer_x) (wX4_number cI th th_adpcmSpeaker th_adpcmSpeaker_numbers th_adpcmHearer th_adpcmHearer_numbers th_wideSpeaker th_wideSpeaker_low th_wideSpeaker_low_numbers th_wideSpeaker_high th_wideSpeaker_high_numbers th_wideSpeaker_x th_wideHearer th_wideHearer_low th_wideHearer_low_numbers th_wideHearer_high th_wideHearer_high_numbers th_wideHearer_x c_kind c_adpcmSpeaker_bits c_adpcmSpeaker_se c_adpcmSpeaker_sz c_adpcmSpeaker_step f_adpcmSpeaker_numbers c_adpcmHearer_bits c_adpcmHearer_se c_adpcmHearer_sz c_adpcmHearer_step f_adpcmHearer_numbers c_wideSpeaker_secondHeard f_wideSpeaker_low_numbers f_wideSpeaker_high_numbers f_wideSpeaker_x c_wideHearer_secondHeard f_wideHearer_low_numbers f_wideHearer_high_numbers f_wideHearer_x) res := by
  refine pq_mkI (cc := cX4_number) (maxL := 3) (RT := .int) (by decide) rfl (Nat.le_of_ble_eq_true rfl) ?_
  intro p e s m args below meth c Q A C hh hret ls hl
  have hx := C.1
  have hb := C.2.1
  have hml := C.2.2.1
  have hown : s.vm.findClass RX4 = some m.cls := C.2.2.2.1
  have hs : ∀ w ∈ wsL_law, w ∈ qsX4_number := fun _ h => List.mem_cons_of_mem _ h
  have htw : ∀ w ∈ wsL_law, w.before args s = true := fun w h => C.2.2.2.2.1 w (hs w h)
  have hl : lv_has ls 3 [(0, .ref th), (1, .int a1), (2, .int a2)] := hl
  have i4 : ∀ w ∈ wsX40, w ∈ qsX4_number := fun w h => hs w (pq_i4 w h)
  have kc31 := htw (.constant RX4 31 (-100000)) (pq_m2 _ (List.mem_of_getElem? (i := 10) rfl))
  have kf12 := htw (.fieldLink RX4 12 "VoiceDesk$Line" "adpcmSpeaker" "LVoiceDesk$Adpcm;") (pq_m2 _ (List.mem_of_getElem? (i := 3) rfl))
  have kf18 := htw (.fieldLink RX4 18 "VoiceDesk$Line" "adpcmHearer" "LVoiceDesk$Adpcm;") (pq_m2 _ (List.mem_of_getElem? (i := 4) rfl))
  have kf24 := htw (.fieldLink RX4 24 "VoiceDesk$Line" "wideSpeaker" "LVoiceDesk$Wideband;") (pq_m2 _ (List.mem_of_getElem? (i := 8) rfl))
  have kf28 := htw (.fieldLink RX4 28 "VoiceDesk$Line" "wideHearer" "LVoiceDesk$Wideband;") (pq_m2 _ (List.mem_of_getElem? (i := 9) rfl))
  rw [fX4_number] at hf
  refine lv_aload_n hx hb dX4_number_0 rfl (lv_at hl 0 rfl) ?_
  obtain ⟨r1, hu2, hf⟩ := pq_clx hf
  refine pq_cvI (n := 0) (As := []) C hh (qX4_isWide l D cI cL th th_adpcmSpeaker th_adpcmHearer th_wideSpeaker th_wideHearer c_kind r1 hu2) (gvX4_isWide hs (pq_m6 _ (List.mem_of_getElem? (i := 1) rfl))) rfl (by decide +kernel) ⟨Nat.le_of_ble_eq_true rfl, Nat.le_of_ble_eq_true rfl⟩ 0 3 rfl rfl rfl hl.1 rfl rfl (Nat.le_of_ble_eq_true rfl) dX4_number_1 ⟨Nat.zero_le _, Nat.zero_le _⟩ [0] [1, 2, 3, 4, 5, 6, 7, 8, 9, 10, 11, 12, 13, 14, 15, 16] [16, 0, 1, 2, 3, 4, 5, 6, 7, 8, 9, 10, 11, 12, 13, 14, 15] rfl rfl (by decide) (by decide) (by decide) rfl (fun H locs (hh : pq_H D A s (wX4_number cI th th_adpcmSpeaker th_adpcmSpeaker_numbers th_adpcmHearer th_adpcmHearer_numbers th_wideSpeaker th_wideSpeaker_low th_wideSpeaker_low_numbers th_wideSpeaker_high th_wideSpeaker_high_numbers th_wideSpeaker_x th_wideHearer th_wideHearer_low th_wideHearer_low_numbers th_wideHearer_high th_wideHearer_high_numbers th_wideHearer_x c_kind c_adpcmSpeaker_bits c_adpcmSpeaker_se c_adpcmSpeaker_sz c_adpcmSpeaker_step f_adpcmSpeaker_numbers c_adpcmHearer_bits c_adpcmHearer_se c_adpcmHearer_sz c_adpcmHearer_step f_adpcmHearer_numbers c_wideSpeaker_secondHeard f_wideSpeaker_low_numbers f_wideSpeaker_high_numbers f_wideSpeaker_x c_wideHearer_secondHeard f_wideHearer_low_numbers f_wideHearer_high_numbers f_wideHearer_x) H locs) => ?_)
  refine lv_if_eq (tgt := 31) hx hb dX4_number_4 (by decide) (fun h3 => ?_) (fun h3 => ?_)
  · have hf := pq_brt hf h3
    refine lv_aload_n hx hb dX4_number_31 rfl (lv_at hl 0 rfl) ?_
    obtain ⟨r4, hu5, hf⟩ := pq_clx hf
    refine pq_cvI (n := 0) (As := []) C hh (qX4_isAdpcm l D cI cL th th_adpcmSpeaker th_adpcmHearer th_wideSpeaker th_wideHearer c_kind r4 hu5) (gvX4_isAdpcm hs (pq_m5 _ (List.mem_of_getElem? (i := 16) rfl))) rfl (by decide +kernel) ⟨Nat.le_of_ble_eq_true rfl, Nat.le_of_ble_eq_true rfl⟩ 0 3 rfl rfl rfl hl.1 rfl rfl (Nat.le_of_ble_eq_true rfl) dX4_number_32 ⟨Nat.zero_le _, Nat.zero_le _⟩ [0] [1, 2, 3, 4, 5, 6, 7, 8, 9, 10, 11, 12, 13, 14, 15, 16] [16, 0, 1, 2, 3, 4, 5, 6, 7, 8, 9, 10, 11, 12, 13, 14, 15] rfl rfl (by decide) (by decide) (by decide) rfl (fun H locs (hh : pq_H D A s (wX4_number cI th th_adpcmSpeaker th_adpcmSpeaker_numbers th_adpcmHearer th_adpcmHearer_numbers th_wideSpeaker th_wideSpeaker_low th_wideSpeaker_low_numbers th_wideSpeaker_high th_wideSpeaker_high_numbers th_wideSpeaker_x th_wideHearer th_wideHearer_low th_wideHearer_low_numbers th_wideHearer_high th_wideHearer_high_numbers th_wideHearer_x c_kind c_adpcmSpeaker_bits c_adpcmSpeaker_se c_adpcmSpeaker_sz c_adpcmSpeaker_step f_adpcmSpeaker_numbers c_adpcmHearer_bits c_adpcmHearer_se c_adpcmHearer_sz c_adpcmHearer_step f_adpcmHearer_numbers c_wideSpeaker_secondHeard f_wideSpeaker_low_numbers f_wideSpeaker_high_numbers f_wideSpeaker_x c_wideHearer_secondHeard f_wideHearer_low_numbers f_wideHearer_high_numbers f_wideHearer_x) H locs) => ?_)
    refine lv_if_eq (tgt := 62) hx hb dX4_number_35 (by decide) (fun h6 => ?_) (fun h6 => ?_)
    · have hf := pq_brt hf h6
      refine lv_ldc (v := (-100000 : Int32)) hx hb hown kc31 dX4_number_62 ?_
      obtain rfl := Option.some.inj hf
      exact hret _ _ _ ls hh dX4_number_64 rfl
    · have hf := pq_brf hf h6
      refine lv_iload_n hx hb dX4_number_38 rfl (lv_at hl 1 rfl) ?_
      refine lv_if_eq (tgt := 53) hx hb dX4_number_39 (by decide) (fun h7 => ?_) (fun h7 => ?_)
      · have hf := pq_brt hf h7
        refine lv_aload_n hx hb dX4_number_53 rfl (lv_at hl 0 rfl) ?_
        refine pq_get C hh i4 0 3 rfl rfl 1 (by decide) kf18 rfl rfl dX4_number_54 ?_
        refine lv_iload_n hx hb dX4_number_57 rfl (lv_at hl 2 rfl) ?_
        obtain ⟨r8, hu9, hf⟩ := pq_clx hf
        refine pq_cvI (n := 1) (As := [.int a2]) C hh (qX0_number l D cI cL th_adpcmHearer th_adpcmHearer_numbers c_adpcmHearer_bits c_adpcmHearer_se c_adpcmHearer_sz c_adpcmHearer_step f_adpcmHearer_numbers a2 r8 hu9) (gvX0_number hs (pq_m25 _ (List.mem_of_getElem? (i := 6) rfl))) rfl (by decide +kernel) ⟨Nat.le_of_ble_eq_true rfl, Nat.le_of_ble_eq_true rfl⟩ 3 0 rfl rfl rfl hl.1 rfl rfl (Nat.le_of_ble_eq_true rfl) dX4_number_58 ⟨Nat.zero_le _, Nat.zero_le _⟩ [3, 4] [0, 1, 2, 5, 6, 7, 8, 9, 10, 11, 12, 13, 14, 15, 16] [0, 1, 2, 15, 16, 3, 4, 5, 6, 7, 8, 9, 10, 11, 12, 13, 14] rfl rfl (by decide) (by decide) (by decide) rfl (fun H locs (hh : pq_H D A s (wX4_number cI th th_adpcmSpeaker th_adpcmSpeaker_numbers th_adpcmHearer th_adpcmHearer_numbers th_wideSpeaker th_wideSpeaker_low th_wideSpeaker_low_numbers th_wideSpeaker_high th_wideSpeaker_high_numbers th_wideSpeaker_x th_wideHearer th_wideHearer_low th_wideHearer_low_numbers th_wideHearer_high th_wideHearer_high_numbers th_wideHearer_x c_kind c_adpcmSpeaker_bits c_adpcmSpeaker_se c_adpcmSpeaker_sz c_adpcmSpeaker_step f_adpcmSpeaker_numbers c_adpcmHearer_bits c_adpcmHearer_se c_adpcmHearer_sz c_adpcmHearer_step f_adpcmHearer_numbers c_wideSpeaker_secondHeard f_wideSpeaker_low_numbers f_wideSpeaker_high_numbers f_wideSpeaker_x c_wideHearer_secondHeard f_wideHearer_low_numbers f_wideHearer_high_numbers f_wideHearer_x) H locs) => ?_)
        obtain rfl := Option.some.inj hf
        exact hret _ _ _ ls hh dX4_number_61 rfl
      · have hf := pq_brf hf h7
        refine lv_aload_n hx hb dX4_number_42 rfl (lv_at hl 0 rfl) ?_
        refine pq_get C hh i4 0 3 rfl rfl 0 (by decide) kf12 rfl rfl dX4_number_43 ?_
        refine lv_iload_n hx hb dX4_number_46 rfl (lv_at hl 2 rfl) ?_
        obtain ⟨r10, hu11, hf⟩ := pq_clx hf
        refine pq_cvI (n := 1) (As := [.int a2]) C hh (qX0_number l D cI cL th_adpcmSpeaker th_adpcmSpeaker_numbers c_adpcmSpeaker_bits c_adpcmSpeaker_se c_adpcmSpeaker_sz c_adpcmSpeaker_step f_adpcmSpeaker_numbers a2 r10 hu11) (gvX0_number hs (pq_m25 _ (List.mem_of_getElem? (i := 6) rfl))) rfl (by decide +kernel) ⟨Nat.le_of_ble_eq_true rfl, Nat.le_of_ble_eq_true rfl⟩ 1 0 rfl rfl rfl hl.1 rfl rfl (Nat.le_of_ble_eq_true rfl) dX4_number_47 ⟨Nat.zero_le _, Nat.zero_le _⟩ [1, 2] [0, 3, 4, 5, 6, 7, 8, 9, 10, 11, 12, 13, 14, 15, 16] [0, 15, 16, 1, 2, 3, 4, 5, 6, 7, 8, 9, 10, 11, 12, 13, 14] rfl rfl (by decide) (by decide) (by decide) rfl (fun H locs (hh : pq_H D A s (wX4_number cI th th_adpcmSpeaker th_adpcmSpeaker_numbers th_adpcmHearer th_adpcmHearer_numbers th_wideSpeaker th_wideSpeaker_low th_wideSpeaker_low_numbers th_wideSpeaker_high th_wideSpeaker_high_numbers th_wideSpeaker_x th_wideHearer th_wideHearer_low th_wideHearer_low_numbers th_wideHearer_high th_wideHearer_high_numbers th_wideHearer_x c_kind c_adpcmSpeaker_bits c_adpcmSpeaker_se c_adpcmSpeaker_sz c_adpcmSpeaker_step f_adpcmSpeaker_numbers c_adpcmHearer_bits c_adpcmHearer_se c_adpcmHearer_sz c_adpcmHearer_step f_adpcmHearer_numbers c_wideSpeaker_secondHeard f_wideSpeaker_low_numbers f_wideSpeaker_high_numbers f_wideSpeaker_x c_wideHearer_secondHeard f_wideHearer_low_numbers f_wideHearer_high_numbers f_wideHearer_x) H locs) => ?_)
        refine lv_goto (tgt := 61) hx hb dX4_number_50 (by decide) ?_
        obtain rfl := Option.some.inj hf
        exact hret _ _ _ ls hh dX4_number_61 rfl
  · have hf := pq_brf hf h3
    refine lv_iload_n hx hb dX4_number_7 rfl (lv_at hl 1 rfl) ?_
    refine lv_if_eq (tgt := 22) hx hb dX4_number_8 (by decide) (fun h12 => ?_) (fun h12 => ?_)
    · have hf := pq_brt hf h12
      refine lv_aload_n hx hb dX4_number_22 rfl (lv_at hl 0 rfl) ?_
      refine pq_get C hh i4 0 3 rfl rfl 3 (by decide) kf28 rfl rfl dX4_number_23 ?_
      refine lv_iload_n hx hb dX4_number_26 rfl (lv_at hl 2 rfl) ?_
      obtain ⟨r13, hu14, hf⟩ := pq_clx hf
      refine pq_cvI (n := 1) (As := [.int a2]) C hh (qX5_number l D cI cL th_wideHearer th_wideHearer_low th_wideHearer_low_numbers th_wideHearer_high th_wideHearer_high_numbers th_wideHearer_x c_wideHearer_secondHeard f_wideHearer_low_numbers f_wideHearer_high_numbers f_wideHearer_x a2 r13 hu14) (gvX5_number hs (pq_m24 _ (List.mem_of_getElem? (i := 20) rfl))) rfl (by decide +kernel) ⟨Nat.le_of_ble_eq_true rfl, Nat.le_of_ble_eq_true rfl⟩ 11 4 rfl rfl rfl hl.1 rfl rfl (Nat.le_of_ble_eq_true rfl) dX4_number_27 ⟨Nat.zero_le _, Nat.zero_le _⟩ [11, 12, 13, 14, 15, 16] [0, 1, 2, 3, 4, 5, 6, 7, 8, 9, 10] [0, 1, 2, 3, 4, 5, 6, 7, 8, 9, 10, 11, 12, 13, 14, 15, 16] rfl rfl (by decide) (by decide) (by decide) rfl (fun H locs (hh : pq_H D A s (wX4_number cI th th_adpcmSpeaker th_adpcmSpeaker_numbers th_adpcmHearer th_adpcmHearer_numbers th_wideSpeaker th_wideSpeaker_low th_wideSpeaker_low_numbers th_wideSpeaker_high th_wideSpeaker_high_numbers th_wideSpeaker_x th_wideHearer th_wideHearer_low th_wideHearer_low_numbers th_wideHearer_high th_wideHearer_high_numbers th_wideHearer_x c_kind c_adpcmSpeaker_bits c_adpcmSpeaker_se c_adpcmSpeaker_sz c_adpcmSpeaker_step f_adpcmSpeaker_numbers c_adpcmHearer_bits c_adpcmHearer_se c_adpcmHearer_sz c_adpcmHearer_step f_adpcmHearer_numbers c_wideSpeaker_secondHeard f_wideSpeaker_low_numbers f_wideSpeaker_high_numbers f_wideSpeaker_x c_wideHearer_secondHeard f_wideHearer_low_numbers f_wideHearer_high_numbers f_wideHearer_x) H locs) => ?_)
      obtain rfl := Option.some.inj hf
      exact hret _ _ _ ls hh dX4_number_30 rfl
    · have hf := pq_brf hf h12
      refine lv_aload_n hx hb dX4_number_11 rfl (lv_at hl 0 rfl) ?_
      refine pq_get C hh i4 0 3 rfl rfl 2 (by decide) kf24 rfl rfl dX4_number_12 ?_
      refine lv_iload_n hx hb dX4_number_15 rfl (lv_at hl 2 rfl) ?_
      obtain ⟨r15, hu16, hf⟩ := pq_clx hf
      refine pq_cvI (n := 1) (As := [.int a2]) C hh (qX5_number l D cI cL th_wideSpeaker th_wideSpeaker_low th_wideSpeaker_low_numbers th_wideSpeaker_high th_wideSpeaker_high_numbers th_wideSpeaker_x c_wideSpeaker_secondHeard f_wideSpeaker_low_numbers f_wideSpeaker_high_numbers f_wideSpeaker_x a2 r15 hu16) (gvX5_number hs (pq_m24 _ (List.mem_of_getElem? (i := 20) rfl))) rfl (by decide +kernel) ⟨Nat.le_of_ble_eq_true rfl, Nat.le_of_ble_eq_true rfl⟩ 5 4 rfl rfl rfl hl.1 rfl rfl (Nat.le_of_ble_eq_true rfl) dX4_number_16 ⟨Nat.zero_le _, Nat.zero_le _⟩ [5, 6, 7, 8, 9, 10] [0, 1, 2, 3, 4, 11, 12, 13, 14, 15, 16] [0, 1, 2, 3, 4, 11, 12, 13, 14, 15, 16, 5, 6, 7, 8, 9, 10] rfl rfl (by decide) (by decide) (by decide) rfl (fun H locs (hh : pq_H D A s (wX4_number cI th th_adpcmSpeaker th_adpcmSpeaker_numbers th_adpcmHearer th_adpcmHearer_numbers th_wideSpeaker th_wideSpeaker_low th_wideSpeaker_low_numbers th_wideSpeaker_high th_wideSpeaker_high_numbers th_wideSpeaker_x th_wideHearer th_wideHearer_low th_wideHearer_low_numbers th_wideHearer_high th_wideHearer_high_numbers th_wideHearer_x c_kind c_adpcmSpeaker_bits c_adpcmSpeaker_se c_adpcmSpeaker_sz c_adpcmSpeaker_step f_adpcmSpeaker_numbers c_adpcmHearer_bits c_adpcmHearer_se c_adpcmHearer_sz c_adpcmHearer_step f_adpcmHearer_numbers c_wideSpeaker_secondHeard f_wideSpeaker_low_numbers f_wideSpeaker_high_numbers f_wideSpeaker_x c_wideHearer_secondHeard f_wideHearer_low_numbers f_wideHearer_high_numbers f_wideHearer_x) H locs) => ?_)
      refine lv_goto (tgt := 30) hx hb dX4_number_19 (by decide) ?_
      obtain rfl := Option.some.inj hf
      exact hret _ _ _ ls hh dX4_number_30 rfl
set_option maxHeartbeats 4000000 in
set_option maxRecDepth 100000 in
theorem qX6_open_o (l : Launch) (D : va_G) (cI cL : ClassId) (th : Nat) (th_lines : Nat) (th_tape : Nat) (th_result : Nat) (a1 : Int32) (a2 : Int32) (res : Int32) (hf : fX6_open_o a1 a2 = some res) : pq_CI l yX6_open qsX6_open 3 64 D cI cL [.ref th, .int a1, .int a2] (wX6_open_o cI th th_lines th_tape th_result) (wX6_open_o cI th th_lines th_tape th_result) res := by
  refine pq_mkI (cc := cX6_open) (maxL := 3) (RT := .boolean) (by decide) rfl (Nat.le_of_ble_eq_true rfl) ?_
  intro p e s m args below meth c Q A C hh hret ls hl
  have hx := C.1
  have hb := C.2.1
  have hml := C.2.2.1
  have hown : s.vm.findClass RX6 = some m.cls := C.2.2.2.1
  have hs : ∀ w ∈ wsL_law, w ∈ qsX6_open := fun _ h => List.mem_cons_of_mem _ h
  have htw : ∀ w ∈ wsL_law, w.before args s = true := fun w h => C.2.2.2.2.1 w (hs w h)
  have hl : lv_has ls 3 [(0, .ref th), (1, .int a1), (2, .int a2)] := hl
  have i6 : ∀ w ∈ wsX60, w ∈ qsX6_open := fun w h => hs w (pq_i6 w h)
  have kf11 := htw (.fieldLink RX6 11 "VoiceDesk" "lines" "[LVoiceDesk$Line;") (pq_m1 _ (List.mem_of_getElem? (i := 13) rfl))
  rw [fX6_open_o] at hf
  refine lv_iload_n hx hb dX6_open_0 rfl (lv_at hl 1 rfl) ?_
  refine lv_if_lt (tgt := 19) hx hb dX6_open_1 (by decide) (fun h1 => ?_) (fun h1 => ?_)
  · have hf := pq_brt hf h1
    refine lv_iconst (v := (0 : Int32)) hx hb dX6_open_19 (by decide) ?_
    obtain rfl := Option.some.inj hf
    exact hret _ _ _ ls hh dX6_open_20 (pq_nb0 rfl)
  · have hf := pq_brf hf h1
    refine lv_iload_n hx hb dX6_open_4 rfl (lv_at hl 1 rfl) ?_
    refine lv_iconst (v := (4 : Int32)) hx hb dX6_open_5 (by decide) ?_
    refine lv_icmp_ge (tgt := 19) hx hb dX6_open_6 (by decide) (fun h2 => ?_) (fun h2 => ?_)
    · have hf := pq_brt hf h2
      refine lv_iconst (v := (0 : Int32)) hx hb dX6_open_19 (by decide) ?_
      obtain rfl := Option.some.inj hf
      exact hret _ _ _ ls hh dX6_open_20 (pq_nb0 rfl)
    · have hf := pq_brf hf h2
      refine lv_iload_n hx hb dX6_open_9 rfl (lv_at hl 2 rfl) ?_
      refine lv_if_lt (tgt := 19) hx hb dX6_open_10 (by decide) (fun h3 => ?_) (fun h3 => ?_)
      · have hf := pq_brt hf h3
        refine lv_iconst (v := (0 : Int32)) hx hb dX6_open_19 (by decide) ?_
        obtain rfl := Option.some.inj hf
        exact hret _ _ _ ls hh dX6_open_20 (pq_nb0 rfl)
      · have hf := pq_brf hf h3
        refine lv_iload_n hx hb dX6_open_13 rfl (lv_at hl 2 rfl) ?_
        refine lv_bipush (v := (8 : Int32)) hx hb dX6_open_14 (by decide) ?_
        refine lv_icmp_le (tgt := 21) hx hb dX6_open_16 (by decide) (fun h4 => ?_) (fun h4 => ?_)
        · have hf := pq_brt hf h4
          refine lv_aload_n hx hb dX6_open_21 rfl (lv_at hl 0 rfl) ?_
          refine pq_get C hh i6 0 5 rfl rfl 0 (by decide) kf11 rfl rfl dX6_open_22 ?_
          refine lv_iload_n hx hb dX6_open_25 rfl (lv_at hl 1 rfl) ?_
          cases hf
        · have hf := pq_brf hf h4
          refine lv_iconst (v := (0 : Int32)) hx hb dX6_open_19 (by decide) ?_
          obtain rfl := Option.some.inj hf
          exact hret _ _ _ ls hh dX6_open_20 (pq_nb0 rfl)
set_option maxHeartbeats 4000000 in
set_option maxRecDepth 100000 in
theorem qX6_open_i (l : Launch) (D : va_G) (cI cL : ClassId) (La : Nat → Nat) (th : Nat) (th_tape : Nat) (th_result : Nat) (th_lines : Nat) (ln : Nat) (ln_adpcmSpeaker : Nat) (ln_adpcmSpeaker_numbers : Nat) (ln_adpcmHearer : Nat) (ln_adpcmHearer_numbers : Nat) (ln_wideSpeaker : Nat) (ln_wideSpeaker_low : Nat) (ln_wideSpeaker_low_numbers : Nat) (ln_wideSpeaker_high : Nat) (ln_wideSpeaker_high_numbers : Nat) (ln_wideSpeaker_x : Nat) (ln_wideHearer : Nat) (ln_wideHearer_low : Nat) (ln_wideHearer_low_numbers : Nat) (ln_wideHearer_high : Nat) (ln_wideHearer_high_numbers : Nat) (ln_wideHearer_x : Nat) (c_ln_kind : Int32) (c_ln_adpcmSpeaker_bits : Int32) (c_ln_adpcmSpeaker_se : Int32) (c_ln_adpcmSpeaker_sz : Int32) (c_ln_adpcmSpeaker_step : Int32) (f_ln_adpcmSpeaker_numbers : Nat → Int32) (c_ln_adpcmHearer_bits : Int32) (c_ln_adpcmHearer_se : Int32) (c_ln_adpcmHearer_sz : Int32) (c_ln_adpcmHearer_step : Int32) (f_ln_adpcmHearer_numbers : Nat → Int32) (c_ln_wideSpeaker_secondHeard : Int32) (f_ln_wideSpeaker_low_numbers : Nat → Int32) (f_ln_wideSpeaker_high_numbers : Nat → Int32) (f_ln_wideSpeaker_x : Nat → Int32) (c_ln_wideHearer_secondHeard : Int32) (f_ln_wideHearer_low_numbers : Nat → Int32) (f_ln_wideHearer_high_numbers : Nat → Int32) (f_ln_wideHearer_x : Nat → Int32) (a1 : Int32) (a2 : Int32) (hLa1 : La a1.toNatClampNeg = ln) (res : Int32 × Int32 × Int32 × (Nat → Int32) × Int32 × (Nat → Int32) × Int32 × (Nat → Int32) × (Nat → Int32) × (Nat → Int32) × Int32 × (Nat → Int32) × (Nat → Int32) × (Nat → Int32)) (hf : fX6_open_i a1 a2 c_ln_kind c_ln_adpcmSpeaker_bits f_ln_adpcmSpeaker_numbers c_ln_adpcmHearer_bits f_ln_adpcmHearer_numbers c_ln_wideSpeaker_secondHeard f_ln_wideSpeaker_low_numbers f_ln_wideSpeaker_high_numbers f_ln_wideSpeaker_x c_ln_wideHearer_secondHeard f_ln_wideHearer_low_numbers f_ln_wideHearer_high_numbers f_ln_wideHearer_x = some res) : pq_CI l yX6_open qsX6_open 3 64 D cI cL [.ref th, .int a1, .int a2] (wX6_open_i cI cL La th th_tape th_result th_lines ln ln_adpcmSpeaker ln_adpcmSpeaker_numbers ln_adpcmHearer ln_adpcmHearer_numbers ln_wideSpeaker ln_wideSpeaker_low ln_wideSpeaker_low_numbers ln_wideSpeaker_high ln_wideSpeaker_high_numbers ln_wideSpeaker_x ln_wideHearer ln_wideHearer_low ln_wideHearer_low_numbers ln_wideHearer_high ln_wideHearer_high_numbers ln_wideHearer_x c_ln_kind c_ln_adpcmSpeaker_bits c_ln_adpcmSpeaker_se c_ln_adpcmSpeaker_sz c_ln_adpcmSpeaker_step f_ln_adpcmSpeaker_numbers c_ln_adpcmHearer_bits c_ln_adpcmHearer_se c_ln_adpcmHearer_sz c_ln_adpcmHearer_step f_ln_adpcmHearer_numbers c_ln_wideSpeaker_secondHeard f_ln_wideSpeaker_low_numbers f_ln_wideSpeaker_high_numbers f_ln_wideSpeaker_x c_ln_wideHearer_secondHeard f_ln_wideHearer_low_numbers f_ln_wideHearer_high_numbers f_ln_wideHearer_x) (wX6_open_i cI cL La th th_tape th_result th_lines ln ln_adpcmSpeaker ln_adpcmSpeaker_numbers ln_adpcmHearer ln_adpcmHearer_numbers ln_wideSpeaker ln_wideSpeaker_low ln_wideSpeaker_low_numbers ln_wideSpeaker_high ln_wideSpeaker_high_numbers ln_wideSpeaker_x ln_wideHearer ln_wideHearer_low ln_wideHearer_low_numbers ln_wideHearer_high ln_wideHearer_high_numbers ln_wideHearer_x res.2.1 res.2.2.1 c_ln_adpcmSpeaker_se c_ln_adpcmSpeaker_sz c_ln_adpcmSpeaker_step res.2.2.2.1 res.2.2.2.2.1 c_ln_adpcmHearer_se c_ln_adpcmHearer_sz c_ln_adpcmHearer_step res.2.2.2.2.2.1 res.2.2.2.2.2.2.1 res.2.2.2.2.2.2.2.1 res.2.2.2.2.2.2.2.2.1 res.2.2.2.2.2.2.2.2.2.1 res.2.2.2.2.2.2.2.2.2.2.1 res.2.2.2.2.2.2.2.2.2.2.2.1 res.2.2.2.2.2.2.2.2.2.2.2.2.1 res.2.2.2.2.2.2.2.2.2.2.2.2.2) res.1 := by
  refine pq_mkI (cc := cX6_open) (maxL := 3) (RT := .boolean) (by decide) rfl (Nat.le_of_ble_eq_true rfl) ?_
  intro p e s m args below meth c Q A C hh hret ls hl
  have hx := C.1
  have hb := C.2.1
  have hml := C.2.2.1
  have hown : s.vm.findClass RX6 = some m.cls := C.2.2.2.1
  have hs : ∀ w ∈ wsL_law, w ∈ qsX6_open := fun _ h => List.mem_cons_of_mem _ h
  have htw : ∀ w ∈ wsL_law, w.before args s = true := fun w h => C.2.2.2.2.1 w (hs w h)
  have hl : lv_has ls 3 [(0, .ref th), (1, .int a1), (2, .int a2)] := hl
  have i6 : ∀ w ∈ wsX60, w ∈ qsX6_open := fun w h => hs w (pq_i6 w h)
  have kf11 := htw (.fieldLink RX6 11 "VoiceDesk" "lines" "[LVoiceDesk$Line;") (pq_m1 _ (List.mem_of_getElem? (i := 13) rfl))
  rw [fX6_open_i] at hf
  refine lv_iload_n hx hb dX6_open_0 rfl (lv_at hl 1 rfl) ?_
  refine lv_if_lt (tgt := 19) hx hb dX6_open_1 (by decide) (fun h1 => ?_) (fun h1 => ?_)
  · have hf := pq_brt hf h1
    refine lv_iconst (v := (0 : Int32)) hx hb dX6_open_19 (by decide) ?_
    obtain rfl := Option.some.inj hf
    exact hret _ _ _ ls hh dX6_open_20 (pq_nb0 rfl)
  · have hf := pq_brf hf h1
    refine lv_iload_n hx hb dX6_open_4 rfl (lv_at hl 1 rfl) ?_
    refine lv_iconst (v := (4 : Int32)) hx hb dX6_open_5 (by decide) ?_
    refine lv_icmp_ge (tgt := 19) hx hb dX6_open_6 (by decide) (fun h2 => ?_) (fun h2 => ?_)
    · have hf := pq_brt hf h2
      refine lv_iconst (v := (0 : Int32)) hx hb dX6_open_19 (by decide) ?_
      obtain rfl := Option.some.inj hf
      exact hret _ _ _ ls hh dX6_open_20 (pq_nb0 rfl)
    · have hf := pq_brf hf h2
      refine lv_iload_n hx hb dX6_open_9 rfl (lv_at hl 2 rfl) ?_
      refine lv_if_lt (tgt := 19) hx hb dX6_open_10 (by decide) (fun h3 => ?_) (fun h3 => ?_)
      · have hf := pq_brt hf h3
        refine lv_iconst (v := (0 : Int32)) hx hb dX6_open_19 (by decide) ?_
        obtain rfl := Option.some.inj hf
        exact hret _ _ _ ls hh dX6_open_20 (pq_nb0 rfl)
      · have hf := pq_brf hf h3
        refine lv_iload_n hx hb dX6_open_13 rfl (lv_at hl 2 rfl) ?_
        refine lv_bipush (v := (8 : Int32)) hx hb dX6_open_14 (by decide) ?_
        refine lv_icmp_le (tgt := 21) hx hb dX6_open_16 (by decide) (fun h4 => ?_) (fun h4 => ?_)
        · have hf := pq_brt hf h4
          refine lv_aload_n hx hb dX6_open_21 rfl (lv_at hl 0 rfl) ?_
          refine pq_get C hh i6 0 5 rfl rfl 0 (by decide) kf11 rfl rfl dX6_open_22 ?_
          refine lv_iload_n hx hb dX6_open_25 rfl (lv_at hl 1 rfl) ?_
          obtain ⟨h5, hf⟩ := pq_ixx hf
          refine pq_aald C hh 1 rfl h5 hLa1 dX6_open_26 ?_
          refine lv_iload_n hx hb dX6_open_27 rfl (lv_at hl 2 rfl) ?_
          obtain ⟨⟨c6, c7, f8, c9, f10, c11, f12, f13, f14, c15, f16, f17, f18⟩, hu19, hf⟩ := pq_clx hf
          have hf := pq_nmx hf c6 rfl
          have hf := pq_nmx hf c7 rfl
          have hf := pq_nmx hf f8 rfl
          have hf := pq_nmx hf c9 rfl
          have hf := pq_nmx hf f10 rfl
          have hf := pq_nmx hf c11 rfl
          have hf := pq_nmx hf f12 rfl
          have hf := pq_nmx hf f13 rfl
          have hf := pq_nmx hf f14 rfl
          have hf := pq_nmx hf c15 rfl
          have hf := pq_nmx hf f16 rfl
          have hf := pq_nmx hf f17 rfl
          have hf := pq_nmx hf f18 rfl
          refine pq_cvV (n := 1) (As := [.int a2]) C hh (qX4_begin l D cI cL ln ln_adpcmSpeaker ln_adpcmSpeaker_numbers ln_adpcmHearer ln_adpcmHearer_numbers ln_wideSpeaker ln_wideSpeaker_low ln_wideSpeaker_low_numbers ln_wideSpeaker_high ln_wideSpeaker_high_numbers ln_wideSpeaker_x ln_wideHearer ln_wideHearer_low ln_wideHearer_low_numbers ln_wideHearer_high ln_wideHearer_high_numbers ln_wideHearer_x c_ln_kind c_ln_adpcmSpeaker_bits c_ln_adpcmSpeaker_se c_ln_adpcmSpeaker_sz c_ln_adpcmSpeaker_step f_ln_adpcmSpeaker_numbers c_ln_adpcmHearer_bits c_ln_adpcmHearer_se c_ln_adpcmHearer_sz c_ln_adpcmHearer_step f_ln_adpcmHearer_numbers c_ln_wideSpeaker_secondHeard f_ln_wideSpeaker_low_numbers f_ln_wideSpeaker_high_numbers f_ln_wideSpeaker_x c_ln_wideHearer_secondHeard f_ln_wideHearer_low_numbers f_ln_wideHearer_high_numbers f_ln_wideHearer_x a2 (c6, c7, f8, c9, f10, c11, f12, f13, f14, c15, f16, f17, f18) hu19) (gvX4_begin hs (pq_m5 _ (List.mem_of_getElem? (i := 12) rfl))) rfl (by decide +kernel) ⟨Nat.le_of_ble_eq_true rfl, Nat.le_of_ble_eq_true rfl⟩ 2 3 rfl rfl rfl hl.1 rfl rfl (Nat.le_of_ble_eq_true rfl) dX6_open_28 ⟨Nat.zero_le _, Nat.zero_le _⟩ [2, 3, 4, 5, 6, 7, 8, 9, 10, 11, 12, 13, 14, 15, 16, 17, 18] [0, 1] [0, 1, 2, 3, 4, 5, 6, 7, 8, 9, 10, 11, 12, 13, 14, 15, 16, 17, 18] rfl rfl (by decide) (by decide) (by decide) rfl (fun H locs (hh : pq_H D A s (wX6_open_i cI cL La th th_tape th_result th_lines ln ln_adpcmSpeaker ln_adpcmSpeaker_numbers ln_adpcmHearer ln_adpcmHearer_numbers ln_wideSpeaker ln_wideSpeaker_low ln_wideSpeaker_low_numbers ln_wideSpeaker_high ln_wideSpeaker_high_numbers ln_wideSpeaker_x ln_wideHearer ln_wideHearer_low ln_wideHearer_low_numbers ln_wideHearer_high ln_wideHearer_high_numbers ln_wideHearer_x c6 c7 c_ln_adpcmSpeaker_se c_ln_adpcmSpeaker_sz c_ln_adpcmSpeaker_step f8 c9 c_ln_adpcmHearer_se c_ln_adpcmHearer_sz c_ln_adpcmHearer_step f10 c11 f12 f13 f14 c15 f16 f17 f18) H locs) => ?_)
          refine lv_iconst (v := (1 : Int32)) hx hb dX6_open_31 (by decide) ?_
          obtain rfl := Option.some.inj hf
          exact hret _ _ _ ls hh dX6_open_32 (pq_nb1 rfl)
        · have hf := pq_brf hf h4
          refine lv_iconst (v := (0 : Int32)) hx hb dX6_open_19 (by decide) ?_
          obtain rfl := Option.some.inj hf
          exact hret _ _ _ ls hh dX6_open_20 (pq_nb0 rfl)
set_option maxHeartbeats 4000000 in
set_option maxRecDepth 100000 in
theorem qX6_openLine_o (l : Launch) (D : va_G) (cI cL : ClassId) (th : Nat) (th_lines : Nat) (th_tape : Nat) (th_result : Nat) (a1 : Int32) (res : Unit) (hf : fX6_openLine_o a1 = some res) : pq_CQ l yX6_openLine qsX6_openLine 0 0 D cI cL [.ref th, .int a1] (wX6_openLine_o cI th th_lines th_tape th_result) (wX6_openLine_o cI th th_lines th_tape th_result) none := by
  refine pq_mkQ (cc := cX6_openLine) (maxL := 3) (RT := (.object "VoiceDesk$Line")) (by decide) rfl ⟨_, rfl⟩ (Nat.le_of_ble_eq_true rfl) ?_
  intro p e s m args below meth c Q A C hh hret ls hl
  have hx := C.1
  have hb := C.2.1
  have hml := C.2.2.1
  have hown : s.vm.findClass RX6 = some m.cls := C.2.2.2.1
  have hs : ∀ w ∈ wsL_law, w ∈ qsX6_openLine := fun _ h => List.mem_cons_of_mem _ h
  have htw : ∀ w ∈ wsL_law, w.before args s = true := fun w h => C.2.2.2.2.1 w (hs w h)
  have hl : lv_has ls 3 [(0, .ref th), (1, .int a1)] := hl
  have i6 : ∀ w ∈ wsX60, w ∈ qsX6_openLine := fun w h => hs w (pq_i6 w h)
  have kf11 := htw (.fieldLink RX6 11 "VoiceDesk" "lines" "[LVoiceDesk$Line;") (pq_m1 _ (List.mem_of_getElem? (i := 13) rfl))
  rw [fX6_openLine_o] at hf
  refine lv_iload_n hx hb dX6_openLine_0 rfl (lv_at hl 1 rfl) ?_
  refine lv_if_lt (tgt := 9) hx hb dX6_openLine_1 (by decide) (fun h1 => ?_) (fun h1 => ?_)
  · have hf := pq_brt hf h1
    refine lv_null hx hb dX6_openLine_9 ?_
    obtain rfl := Option.some.inj hf
    exact hret _ _ _ ls _ hh dX6_openLine_10 rfl
  · have hf := pq_brf hf h1
    refine lv_iload_n hx hb dX6_openLine_4 rfl (lv_at hl 1 rfl) ?_
    refine lv_iconst (v := (4 : Int32)) hx hb dX6_openLine_5 (by decide) ?_
    refine lv_icmp_lt (tgt := 11) hx hb dX6_openLine_6 (by decide) (fun h2 => ?_) (fun h2 => ?_)
    · have hf := pq_brt hf h2
      refine lv_aload_n hx hb dX6_openLine_11 rfl (lv_at hl 0 rfl) ?_
      refine pq_get C hh i6 0 5 rfl rfl 0 (by decide) kf11 rfl rfl dX6_openLine_12 ?_
      refine lv_iload_n hx hb dX6_openLine_15 rfl (lv_at hl 1 rfl) ?_
      cases hf
    · have hf := pq_brf hf h2
      refine lv_null hx hb dX6_openLine_9 ?_
      obtain rfl := Option.some.inj hf
      exact hret _ _ _ ls _ hh dX6_openLine_10 rfl
set_option maxHeartbeats 4000000 in
set_option maxRecDepth 100000 in
theorem qX6_openLine_i (l : Launch) (D : va_G) (cI cL : ClassId) (La : Nat → Nat) (th : Nat) (th_tape : Nat) (th_result : Nat) (th_lines : Nat) (ln : Nat) (ln_adpcmSpeaker : Nat) (ln_adpcmHearer : Nat) (ln_wideSpeaker : Nat) (ln_wideHearer : Nat) (c_ln_kind : Int32) (a1 : Int32) (hLa1 : La a1.toNatClampNeg = ln) (res : Int32) (hf : fX6_openLine_i a1 c_ln_kind = some res) : pq_CQ l yX6_openLine qsX6_openLine 0 0 D cI cL [.ref th, .int a1] (wX6_openLine_i cI cL La th th_tape th_result th_lines ln ln_adpcmSpeaker ln_adpcmHearer ln_wideSpeaker ln_wideHearer c_ln_kind) (wX6_openLine_i cI cL La th th_tape th_result th_lines ln ln_adpcmSpeaker ln_adpcmHearer ln_wideSpeaker ln_wideHearer c_ln_kind) (if res = 0 then none else some ln) := by
  refine pq_mkQ (cc := cX6_openLine) (maxL := 3) (RT := (.object "VoiceDesk$Line")) (by decide) rfl ⟨_, rfl⟩ (Nat.le_of_ble_eq_true rfl) ?_
  intro p e s m args below meth c Q A C hh hret ls hl
  have hx := C.1
  have hb := C.2.1
  have hml := C.2.2.1
  have hown : s.vm.findClass RX6 = some m.cls := C.2.2.2.1
  have hs : ∀ w ∈ wsL_law, w ∈ qsX6_openLine := fun _ h => List.mem_cons_of_mem _ h
  have htw : ∀ w ∈ wsL_law, w.before args s = true := fun w h => C.2.2.2.2.1 w (hs w h)
  have hl : lv_has ls 3 [(0, .ref th), (1, .int a1)] := hl
  have i4 : ∀ w ∈ wsX40, w ∈ qsX6_openLine := fun w h => hs w (pq_i4 w h)
  have i6 : ∀ w ∈ wsX60, w ∈ qsX6_openLine := fun w h => hs w (pq_i6 w h)
  have kc34 := htw (.constant RX6 34 (-100000)) (pq_m7 _ (List.mem_of_getElem? (i := 3) rfl))
  have kf11 := htw (.fieldLink RX6 11 "VoiceDesk" "lines" "[LVoiceDesk$Line;") (pq_m1 _ (List.mem_of_getElem? (i := 13) rfl))
  rw [fX6_openLine_i] at hf
  refine lv_iload_n hx hb dX6_openLine_0 rfl (lv_at hl 1 rfl) ?_
  refine lv_if_lt (tgt := 9) hx hb dX6_openLine_1 (by decide) (fun h1 => ?_) (fun h1 => ?_)
  · have hf := pq_brt hf h1
    refine lv_null hx hb dX6_openLine_9 ?_
    obtain rfl := Option.some.inj hf
    exact hret _ _ _ ls _ hh dX6_openLine_10 rfl
  · have hf := pq_brf hf h1
    refine lv_iload_n hx hb dX6_openLine_4 rfl (lv_at hl 1 rfl) ?_
    refine lv_iconst (v := (4 : Int32)) hx hb dX6_openLine_5 (by decide) ?_
    refine lv_icmp_lt (tgt := 11) hx hb dX6_openLine_6 (by decide) (fun h2 => ?_) (fun h2 => ?_)
    · have hf := pq_brt hf h2
      refine lv_aload_n hx hb dX6_openLine_11 rfl (lv_at hl 0 rfl) ?_
      refine pq_get C hh i6 0 5 rfl rfl 0 (by decide) kf11 rfl rfl dX6_openLine_12 ?_
      refine lv_iload_n hx hb dX6_openLine_15 rfl (lv_at hl 1 rfl) ?_
      obtain ⟨h3, hf⟩ := pq_ixx hf
      refine pq_aald C hh 1 rfl h3 hLa1 dX6_openLine_16 ?_
      refine lv_astore_n (lv' := [(2, .ref ln), (0, .ref th), (1, .int a1)]) hx hb dX6_openLine_17 rfl hl (by decide) rfl (fun ls hl => ?_)
      refine lv_aload_n hx hb dX6_openLine_18 rfl (lv_at hl 0 rfl) ?_
      refine pq_getN (host := "VoiceDesk") C hh i4 2 3 rfl rfl 4 (by decide) (List.mem_of_getElem? (i := 1) rfl) rfl rfl dX6_openLine_19 ?_
      refine lv_ldc (v := (-100000 : Int32)) hx hb hown kc34 dX6_openLine_22 ?_
      refine lv_icmp_ne (tgt := 31) hx hb dX6_openLine_24 (by decide) (fun h4 => ?_) (fun h4 => ?_)
      · have hf := pq_brf hf h4
        refine lv_aload_n hx hb dX6_openLine_31 rfl (lv_at hl 0 rfl) ?_
        obtain rfl := Option.some.inj hf
        exact hret _ _ _ ls _ hh dX6_openLine_32 rfl
      · have hf := pq_brt hf h4
        refine lv_null hx hb dX6_openLine_27 ?_
        refine lv_goto (tgt := 32) hx hb dX6_openLine_28 (by decide) ?_
        obtain rfl := Option.some.inj hf
        exact hret _ _ _ ls _ hh dX6_openLine_32 rfl
    · have hf := pq_brf hf h2
      refine lv_null hx hb dX6_openLine_9 ?_
      obtain rfl := Option.some.inj hf
      exact hret _ _ _ ls _ hh dX6_openLine_10 rfl
set_option maxHeartbeats 4000000 in
set_option maxRecDepth 100000 in
theorem qX6_kind_o (l : Launch) (D : va_G) (cI cL : ClassId) (th : Nat) (th_lines : Nat) (th_tape : Nat) (th_result : Nat) (a1 : Int32) (res : Int32) (hf : fX6_kind_o a1 = some res) : pq_CI l yX6_kind qsX6_kind 1 22 D cI cL [.ref th, .int a1] (wX6_kind_o cI th th_lines th_tape th_result) (wX6_kind_o cI th th_lines th_tape th_result) res := by
  refine pq_mkI (cc := cX6_kind) (maxL := 3) (RT := .int) (by decide) rfl (Nat.le_of_ble_eq_true rfl) ?_
  intro p e s m args below meth c Q A C hh hret ls hl
  have hx := C.1
  have hb := C.2.1
  have hml := C.2.2.1
  have hown : s.vm.findClass RX6 = some m.cls := C.2.2.2.1
  have hs : ∀ w ∈ wsL_law, w ∈ qsX6_kind := fun _ h => List.mem_cons_of_mem _ h
  have htw : ∀ w ∈ wsL_law, w.before args s = true := fun w h => C.2.2.2.2.1 w (hs w h)
  have hl : lv_has ls 3 [(0, .ref th), (1, .int a1)] := hl
  have kc34 := htw (.constant RX6 34 (-100000)) (pq_m7 _ (List.mem_of_getElem? (i := 3) rfl))
  rw [fX6_kind_o] at hf
  refine lv_aload_n hx hb dX6_kind_0 rfl (lv_at hl 0 rfl) ?_
  refine lv_iload_n hx hb dX6_kind_1 rfl (lv_at hl 1 rfl) ?_
  obtain ⟨u2, hu1, hf⟩ := pq_clx hf
  refine pq_cvQ (n := 1) (As := [.int a1]) C hh (qX6_openLine_o l D cI cL th th_lines th_tape th_result a1 u2 hu1) (gvX6_openLine hs (pq_m7 _ (List.mem_of_getElem? (i := 4) rfl))) rfl (by decide +kernel) ⟨Nat.le_of_ble_eq_true rfl, Nat.le_of_ble_eq_true rfl⟩ 0 5 rfl rfl rfl hl.1 rfl rfl (Nat.le_of_ble_eq_true rfl) dX6_kind_2 ⟨Nat.zero_le _, Nat.zero_le _⟩ [0] [] [0] rfl rfl (by decide) (by decide) (by decide) rfl (fun H locs (hh : pq_H D A s (wX6_kind_o cI th th_lines th_tape th_result) H locs) => ?_)
  refine lv_astore_nN (lv' := [(2, .null), (0, .ref th), (1, .int a1)]) hx hb dX6_kind_5 rfl hl (by decide) rfl (fun ls hl => ?_)
  refine lv_aload_nN hx hb dX6_kind_6 rfl (lv_at hl 0 rfl) ?_
  refine lv_ifnonnullN hx hb dX6_kind_7 ?_
  refine lv_ldc (v := (-100000 : Int32)) hx hb hown kc34 dX6_kind_10 ?_
  refine lv_goto (tgt := 19) hx hb dX6_kind_12 (by decide) ?_
  obtain rfl := Option.some.inj hf
  exact hret _ _ _ ls hh dX6_kind_19 rfl
set_option maxHeartbeats 4000000 in
set_option maxRecDepth 100000 in
theorem qX6_kind_i (l : Launch) (D : va_G) (cI cL : ClassId) (La : Nat → Nat) (th : Nat) (th_tape : Nat) (th_result : Nat) (th_lines : Nat) (ln : Nat) (ln_adpcmSpeaker : Nat) (ln_adpcmHearer : Nat) (ln_wideSpeaker : Nat) (ln_wideHearer : Nat) (c_ln_kind : Int32) (a1 : Int32) (hLa1 : La a1.toNatClampNeg = ln) (res : Int32) (hf : fX6_kind_i a1 c_ln_kind = some res) : pq_CI l yX6_kind qsX6_kind 1 22 D cI cL [.ref th, .int a1] (wX6_kind_i cI cL La th th_tape th_result th_lines ln ln_adpcmSpeaker ln_adpcmHearer ln_wideSpeaker ln_wideHearer c_ln_kind) (wX6_kind_i cI cL La th th_tape th_result th_lines ln ln_adpcmSpeaker ln_adpcmHearer ln_wideSpeaker ln_wideHearer c_ln_kind) res := by
  refine pq_mkI (cc := cX6_kind) (maxL := 3) (RT := .int) (by decide) rfl (Nat.le_of_ble_eq_true rfl) ?_
  intro p e s m args below meth c Q A C hh hret ls hl
  have hx := C.1
  have hb := C.2.1
  have hml := C.2.2.1
  have hown : s.vm.findClass RX6 = some m.cls := C.2.2.2.1
  have hs : ∀ w ∈ wsL_law, w ∈ qsX6_kind := fun _ h => List.mem_cons_of_mem _ h
  have htw : ∀ w ∈ wsL_law, w.before args s = true := fun w h => C.2.2.2.2.1 w (hs w h)
  have hl : lv_has ls 3 [(0, .ref th), (1, .int a1)] := hl
  have i4 : ∀ w ∈ wsX40, w ∈ qsX6_kind := fun w h => hs w (pq_i4 w h)
  have kc34 := htw (.constant RX6 34 (-100000)) (pq_m7 _ (List.mem_of_getElem? (i := 3) rfl))
  rw [fX6_kind_i] at hf
  refine lv_aload_n hx hb dX6_kind_0 rfl (lv_at hl 0 rfl) ?_
  refine lv_iload_n hx hb dX6_kind_1 rfl (lv_at hl 1 rfl) ?_
  obtain ⟨r1, hu2, hf⟩ := pq_clx hf
  refine pq_cvQ (n := 1) (As := [.int a1]) C hh (qX6_openLine_i l D cI cL La th th_tape th_result th_lines ln ln_adpcmSpeaker ln_adpcmHearer ln_wideSpeaker ln_wideHearer c_ln_kind a1 hLa1 r1 hu2) (gvX6_openLine hs (pq_m7 _ (List.mem_of_getElem? (i := 4) rfl))) rfl (by decide +kernel) ⟨Nat.le_of_ble_eq_true rfl, Nat.le_of_ble_eq_true rfl⟩ 0 5 rfl rfl rfl hl.1 rfl rfl (Nat.le_of_ble_eq_true rfl) dX6_kind_2 ⟨Nat.zero_le _, Nat.zero_le _⟩ [0, 1, 2] [] [0, 1, 2] rfl rfl (by decide) (by decide) (by decide) rfl (fun H locs (hh : pq_H D A s (wX6_kind_i cI cL La th th_tape th_result th_lines ln ln_adpcmSpeaker ln_adpcmHearer ln_wideSpeaker ln_wideHearer c_ln_kind) H locs) => ?_)
  by_cases h3 : r1 = 0
  · have hf := pq_brt hf h3
    rw [if_pos h3]
    refine W.eq (g2 := F0 m 5 ls [.null]) rfl ?_
    refine lv_astore_nN (lv' := [(2, .null), (0, .ref th), (1, .int a1)]) hx hb dX6_kind_5 rfl hl (by decide) rfl (fun ls hl => ?_)
    refine lv_aload_nN hx hb dX6_kind_6 rfl (lv_at hl 0 rfl) ?_
    refine lv_ifnonnullN hx hb dX6_kind_7 ?_
    refine lv_ldc (v := (-100000 : Int32)) hx hb hown kc34 dX6_kind_10 ?_
    refine lv_goto (tgt := 19) hx hb dX6_kind_12 (by decide) ?_
    obtain rfl := Option.some.inj hf
    exact hret _ _ _ ls hh dX6_kind_19 rfl
  · have hf := pq_brf hf h3
    rw [if_neg h3]
    refine W.eq (g2 := F0 m 5 ls [.ref ln]) rfl ?_
    refine lv_astore_n (lv' := [(2, .ref ln), (0, .ref th), (1, .int a1)]) hx hb dX6_kind_5 rfl hl (by decide) rfl (fun ls hl => ?_)
    refine lv_aload_n hx hb dX6_kind_6 rfl (lv_at hl 0 rfl) ?_
    refine lv_ifnonnull (tgt := 15) hx hb dX6_kind_7 (by decide) ?_
    refine lv_aload_n hx hb dX6_kind_15 rfl (lv_at hl 0 rfl) ?_
    refine pq_getN (host := "VoiceDesk") C hh i4 2 3 rfl rfl 4 (by decide) (List.mem_of_getElem? (i := 1) rfl) rfl rfl dX6_kind_16 ?_
    obtain rfl := Option.some.inj hf
    exact hret _ _ _ ls hh dX6_kind_19 rfl
set_option maxHeartbeats 4000000 in
set_option maxRecDepth 100000 in
theorem qX6_isSample (l : Launch) (D : va_G) (cI cL : ClassId) (a0 : Int32) (res : Int32) (hf : fX6_isSample a0 = some res) : pq_CI l yX6_isSample qsX6_isSample 0 0 D cI cL [.int a0] [] [] res := by
  refine pq_mkI (cc := cX6_isSample) (maxL := 1) (RT := .boolean) (by decide) rfl (Nat.le_of_ble_eq_true rfl) ?_
  intro p e s m args below meth c Q A C hh hret ls hl
  have hx := C.1
  have hb := C.2.1
  have hml := C.2.2.1
  have hown : s.vm.findClass RX6 = some m.cls := C.2.2.2.1
  have hs : ∀ w ∈ wsL_law, w ∈ qsX6_isSample := fun _ h => List.mem_cons_of_mem _ h
  have htw : ∀ w ∈ wsL_law, w.before args s = true := fun w h => C.2.2.2.2.1 w (hs w h)
  have hl : lv_has ls 1 [(0, .int a0)] := hl
  rw [fX6_isSample] at hf
  refine lv_iload_n hx hb dX6_isSample_0 rfl (lv_at hl 0 rfl) ?_
  refine lv_sipush (v := (-32768 : Int32)) hx hb dX6_isSample_1 (by decide) ?_
  refine lv_icmp_lt (tgt := 18) hx hb dX6_isSample_4 (by decide) (fun h1 => ?_) (fun h1 => ?_)
  · have hf := pq_brt hf h1
    refine lv_iconst (v := (0 : Int32)) hx hb dX6_isSample_18 (by decide) ?_
    obtain rfl := Option.some.inj hf
    exact hret _ _ _ ls hh dX6_isSample_19 (pq_nb0 rfl)
  · have hf := pq_brf hf h1
    refine lv_iload_n hx hb dX6_isSample_7 rfl (lv_at hl 0 rfl) ?_
    refine lv_sipush (v := (32767 : Int32)) hx hb dX6_isSample_8 (by decide) ?_
    refine lv_icmp_gt (tgt := 18) hx hb dX6_isSample_11 (by decide) (fun h2 => ?_) (fun h2 => ?_)
    · have hf := pq_brt hf h2
      refine lv_iconst (v := (0 : Int32)) hx hb dX6_isSample_18 (by decide) ?_
      obtain rfl := Option.some.inj hf
      exact hret _ _ _ ls hh dX6_isSample_19 (pq_nb0 rfl)
    · have hf := pq_brf hf h2
      refine lv_iconst (v := (1 : Int32)) hx hb dX6_isSample_14 (by decide) ?_
      refine lv_goto (tgt := 19) hx hb dX6_isSample_15 (by decide) ?_
      obtain rfl := Option.some.inj hf
      exact hret _ _ _ ls hh dX6_isSample_19 (pq_nb1 rfl)
set_option maxHeartbeats 4000000 in
set_option maxRecDepth 100000 in
theorem qX6_say_o (l : Launch) (D : va_G) (cI cL : ClassId) (th : Nat) (th_lines : Nat) (th_tape : Nat) (th_result : Nat) (a1 : Int32) (a2 : Int32) (res : Int32) (hf : fX6_say_o a1 a2 = some res) : pq_CI l yX6_say qsX6_say 6 149 D cI cL [.ref th, .int a1, .int a2] (wX6_say_o cI th th_lines th_tape th_result) (wX6_say_o cI th th_lines th_tape th_result) res := by
  refine pq_mkI (cc := cX6_say) (maxL := 4) (RT := .int) (by decide) rfl (Nat.le_of_ble_eq_true rfl) ?_
  intro p e s m args below meth c Q A C hh hret ls hl
  have hx := C.1
  have hb := C.2.1
  have hml := C.2.2.1
  have hown : s.vm.findClass RX6 = some m.cls := C.2.2.2.1
  have hs : ∀ w ∈ wsL_law, w ∈ qsX6_say := fun _ h => List.mem_cons_of_mem _ h
  have htw : ∀ w ∈ wsL_law, w.before args s = true := fun w h => C.2.2.2.2.1 w (hs w h)
  have hl : lv_has ls 4 [(0, .ref th), (1, .int a1), (2, .int a2)] := hl
  have kc34 := htw (.constant RX6 34 (-100000)) (pq_m7 _ (List.mem_of_getElem? (i := 3) rfl))
  rw [fX6_say_o] at hf
  refine lv_aload_n hx hb dX6_say_0 rfl (lv_at hl 0 rfl) ?_
  refine lv_iload_n hx hb dX6_say_1 rfl (lv_at hl 1 rfl) ?_
  obtain ⟨u2, hu1, hf⟩ := pq_clx hf
  refine pq_cvQ (n := 1) (As := [.int a1]) C hh (qX6_openLine_o l D cI cL th th_lines th_tape th_result a1 u2 hu1) (gvX6_openLine hs (pq_m7 _ (List.mem_of_getElem? (i := 4) rfl))) rfl (by decide +kernel) ⟨Nat.le_of_ble_eq_true rfl, Nat.le_of_ble_eq_true rfl⟩ 0 5 rfl rfl rfl hl.1 rfl rfl (Nat.le_of_ble_eq_true rfl) dX6_say_2 ⟨Nat.zero_le _, Nat.zero_le _⟩ [0] [] [0] rfl rfl (by decide) (by decide) (by decide) rfl (fun H locs (hh : pq_H D A s (wX6_say_o cI th th_lines th_tape th_result) H locs) => ?_)
  refine lv_astore_nN (lv' := [(3, .null), (0, .ref th), (1, .int a1), (2, .int a2)]) hx hb dX6_say_5 rfl hl (by decide) rfl (fun ls hl => ?_)
  refine lv_aload_nN hx hb dX6_say_6 rfl (lv_at hl 0 rfl) ?_
  refine lv_ifnullN (tgt := 24) hx hb dX6_say_7 (by decide) ?_
  refine lv_ldc (v := (-100000 : Int32)) hx hb hown kc34 dX6_say_24 ?_
  obtain rfl := Option.some.inj hf
  exact hret _ _ _ ls hh dX6_say_26 rfl
set_option maxHeartbeats 4000000 in
set_option maxRecDepth 100000 in
theorem qX6_say_i (l : Launch) (D : va_G) (cI cL : ClassId) (La : Nat → Nat) (th : Nat) (th_tape : Nat) (th_result : Nat) (th_lines : Nat) (ln : Nat) (ln_adpcmHearer : Nat) (ln_wideHearer : Nat) (ln_adpcmSpeaker : Nat) (ln_adpcmSpeaker_numbers : Nat) (ln_wideSpeaker : Nat) (ln_wideSpeaker_low : Nat) (ln_wideSpeaker_low_numbers : Nat) (ln_wideSpeaker_high : Nat) (ln_wideSpeaker_high_numbers : Nat) (ln_wideSpeaker_x : Nat) (c_ln_kind : Int32) (c_ln_adpcmSpeaker_bits : Int32) (c_ln_adpcmSpeaker_se : Int32) (c_ln_adpcmSpeaker_sz : Int32) (c_ln_adpcmSpeaker_step : Int32) (f_ln_adpcmSpeaker_numbers : Nat → Int32) (c_ln_wideSpeaker_secondHeard : Int32) (f_ln_wideSpeaker_low_numbers : Nat → Int32) (f_ln_wideSpeaker_high_numbers : Nat → Int32) (f_ln_wideSpeaker_x : Nat → Int32) (a1 : Int32) (a2 : Int32) (hLa1 : La a1.toNatClampNeg = ln) (res : Int32 × Int32 × Int32 × Int32 × (Nat → Int32) × (Nat → Int32) × (Nat → Int32) × (Nat → Int32)) (hf : fX6_say_i a1 a2 c_ln_kind c_ln_adpcmSpeaker_bits c_ln_adpcmSpeaker_se c_ln_adpcmSpeaker_sz c_ln_adpcmSpeaker_step f_ln_adpcmSpeaker_numbers f_ln_wideSpeaker_low_numbers f_ln_wideSpeaker_high_numbers f_ln_wideSpeaker_x = some res) : pq_CI l yX6_say qsX6_say 6 149 D cI cL [.ref th, .int a1, .int a2] (wX6_say_i cI cL La th th_tape th_result th_lines ln ln_adpcmHearer ln_wideHearer ln_adpcmSpeaker ln_adpcmSpeaker_numbers ln_wideSpeaker ln_wideSpeaker_low ln_wideSpeaker_low_numbers ln_wideSpeaker_high ln_wideSpeaker_high_numbers ln_wideSpeaker_x c_ln_kind c_ln_adpcmSpeaker_bits c_ln_adpcmSpeaker_se c_ln_adpcmSpeaker_sz c_ln_adpcmSpeaker_step f_ln_adpcmSpeaker_numbers c_ln_wideSpeaker_secondHeard f_ln_wideSpeaker_low_numbers f_ln_wideSpeaker_high_numbers f_ln_wideSpeaker_x) (wX6_say_i cI cL La th th_tape th_result th_lines ln ln_adpcmHearer ln_wideHearer ln_adpcmSpeaker ln_adpcmSpeaker_numbers ln_wideSpeaker ln_wideSpeaker_low ln_wideSpeaker_low_numbers ln_wideSpeaker_high ln_wideSpeaker_high_numbers ln_wideSpeaker_x c_ln_kind c_ln_adpcmSpeaker_bits res.2.1 res.2.2.1 res.2.2.2.1 res.2.2.2.2.1 c_ln_wideSpeaker_secondHeard res.2.2.2.2.2.1 res.2.2.2.2.2.2.1 res.2.2.2.2.2.2.2) res.1 := by
  refine pq_mkI (cc := cX6_say) (maxL := 4) (RT := .int) (by decide) rfl (Nat.le_of_ble_eq_true rfl) ?_
  intro p e s m args below meth c Q A C hh hret ls hl
  have hx := C.1
  have hb := C.2.1
  have hml := C.2.2.1
  have hown : s.vm.findClass RX6 = some m.cls := C.2.2.2.1
  have hs : ∀ w ∈ wsL_law, w ∈ qsX6_say := fun _ h => List.mem_cons_of_mem _ h
  have htw : ∀ w ∈ wsL_law, w.before args s = true := fun w h => C.2.2.2.2.1 w (hs w h)
  have hl : lv_has ls 4 [(0, .ref th), (1, .int a1), (2, .int a2)] := hl
  have kc34 := htw (.constant RX6 34 (-100000)) (pq_m7 _ (List.mem_of_getElem? (i := 3) rfl))
  rw [fX6_say_i] at hf
  refine lv_aload_n hx hb dX6_say_0 rfl (lv_at hl 0 rfl) ?_
  refine lv_iload_n hx hb dX6_say_1 rfl (lv_at hl 1 rfl) ?_
  obtain ⟨r1, hu2, hf⟩ := pq_clx hf
  refine pq_cvQ (n := 1) (As := [.int a1]) C hh (qX6_openLine_i l D cI cL La th th_tape th_result th_lines ln ln_adpcmSpeaker ln_adpcmHearer ln_wideSpeaker ln_wideHearer c_ln_kind a1 hLa1 r1 hu2) (gvX6_openLine hs (pq_m7 _ (List.mem_of_getElem? (i := 4) rfl))) rfl (by decide +kernel) ⟨Nat.le_of_ble_eq_true rfl, Nat.le_of_ble_eq_true rfl⟩ 0 5 rfl rfl rfl hl.1 rfl rfl (Nat.le_of_ble_eq_true rfl) dX6_say_2 ⟨Nat.zero_le _, Nat.zero_le _⟩ [0, 1, 2] [3, 4, 5, 6, 7, 8, 9, 10] [8, 9, 10, 0, 1, 2, 3, 4, 5, 6, 7] rfl rfl (by decide) (by decide) (by decide) rfl (fun H locs (hh : pq_H D A s (wX6_say_i cI cL La th th_tape th_result th_lines ln ln_adpcmHearer ln_wideHearer ln_adpcmSpeaker ln_adpcmSpeaker_numbers ln_wideSpeaker ln_wideSpeaker_low ln_wideSpeaker_low_numbers ln_wideSpeaker_high ln_wideSpeaker_high_numbers ln_wideSpeaker_x c_ln_kind c_ln_adpcmSpeaker_bits c_ln_adpcmSpeaker_se c_ln_adpcmSpeaker_sz c_ln_adpcmSpeaker_step f_ln_adpcmSpeaker_numbers c_ln_wideSpeaker_secondHeard f_ln_wideSpeaker_low_numbers f_ln_wideSpeaker_high_numbers f_ln_wideSpeaker_x) H locs) => ?_)
  by_cases h3 : r1 = 0
  · have hf := pq_brt hf h3
    rw [if_pos h3]
    refine W.eq (g2 := F0 m 5 ls [.null]) rfl ?_
    refine lv_astore_nN (lv' := [(3, .null), (0, .ref th), (1, .int a1), (2, .int a2)]) hx hb dX6_say_5 rfl hl (by decide) rfl (fun ls hl => ?_)
    refine lv_aload_nN hx hb dX6_say_6 rfl (lv_at hl 0 rfl) ?_
    refine lv_ifnullN (tgt := 24) hx hb dX6_say_7 (by decide) ?_
    refine lv_ldc (v := (-100000 : Int32)) hx hb hown kc34 dX6_say_24 ?_
    obtain rfl := Option.some.inj hf
    exact hret _ _ _ ls hh dX6_say_26 rfl
  · have hf := pq_brf hf h3
    rw [if_neg h3]
    refine W.eq (g2 := F0 m 5 ls [.ref ln]) rfl ?_
    refine lv_astore_n (lv' := [(3, .ref ln), (0, .ref th), (1, .int a1), (2, .int a2)]) hx hb dX6_say_5 rfl hl (by decide) rfl (fun ls hl => ?_)
    refine lv_aload_n hx hb dX6_say_6 rfl (lv_at hl 0 rfl) ?_
    refine lv_ifnull hx hb dX6_say_7 ?_
    refine lv_aload_n hx hb dX6_say_10 rfl (lv_at hl 0 rfl) ?_
    obtain ⟨r4, hu5, hf⟩ := pq_clx hf
    refine pq_cvI (n := 0) (As := []) C hh (qX4_isWide l D cI cL ln ln_adpcmSpeaker ln_adpcmHearer ln_wideSpeaker ln_wideHearer c_ln_kind r4 hu5) (gvX4_isWide hs (pq_m7 _ (List.mem_of_getElem? (i := 16) rfl))) rfl (by decide +kernel) ⟨Nat.le_of_ble_eq_true rfl, Nat.le_of_ble_eq_true rfl⟩ 2 3 rfl rfl rfl hl.1 rfl rfl (Nat.le_of_ble_eq_true rfl) dX6_say_11 ⟨Nat.zero_le _, Nat.zero_le _⟩ [2] [0, 1, 3, 4, 5, 6, 7, 8, 9, 10] [0, 1, 10, 2, 3, 4, 5, 6, 7, 8, 9] rfl rfl (by decide) (by decide) (by decide) rfl (fun H locs (hh : pq_H D A s (wX6_say_i cI cL La th th_tape th_result th_lines ln ln_adpcmHearer ln_wideHearer ln_adpcmSpeaker ln_adpcmSpeaker_numbers ln_wideSpeaker ln_wideSpeaker_low ln_wideSpeaker_low_numbers ln_wideSpeaker_high ln_wideSpeaker_high_numbers ln_wideSpeaker_x c_ln_kind c_ln_adpcmSpeaker_bits c_ln_adpcmSpeaker_se c_ln_adpcmSpeaker_sz c_ln_adpcmSpeaker_step f_ln_adpcmSpeaker_numbers c_ln_wideSpeaker_secondHeard f_ln_wideSpeaker_low_numbers f_ln_wideSpeaker_high_numbers f_ln_wideSpeaker_x) H locs) => ?_)
    refine lv_if_ne (tgt := 24) hx hb dX6_say_14 (by decide) (fun h6 => ?_) (fun h6 => ?_)
    · have hf := pq_brf hf h6
      refine lv_ldc (v := (-100000 : Int32)) hx hb hown kc34 dX6_say_24 ?_
      obtain rfl := Option.some.inj hf
      exact hret _ _ _ ls hh dX6_say_26 rfl
    · have hf := pq_brt hf h6
      refine lv_iload_n hx hb dX6_say_17 rfl (lv_at hl 3 rfl) ?_
      obtain ⟨r7, hu8, hf⟩ := pq_clx hf
      refine pq_csI (n := 1) (As := [.int a2]) C hh (qX6_isSample l D cI cL a2 r7 hu8) (gsX6_isSample hs (pq_m7 _ (List.mem_of_getElem? (i := 17) rfl))) rfl (by decide +kernel) ⟨Nat.le_of_ble_eq_true rfl, Nat.le_of_ble_eq_true rfl⟩ hl.1 rfl rfl (Nat.le_of_ble_eq_true rfl) dX6_say_18 ⟨Nat.zero_le _, Nat.zero_le _⟩ [] [0, 1, 2, 3, 4, 5, 6, 7, 8, 9, 10] [0, 1, 2, 3, 4, 5, 6, 7, 8, 9, 10] rfl rfl (by decide) (by decide) (by decide) rfl (fun H locs (hh : pq_H D A s (wX6_say_i cI cL La th th_tape th_result th_lines ln ln_adpcmHearer ln_wideHearer ln_adpcmSpeaker ln_adpcmSpeaker_numbers ln_wideSpeaker ln_wideSpeaker_low ln_wideSpeaker_low_numbers ln_wideSpeaker_high ln_wideSpeaker_high_numbers ln_wideSpeaker_x c_ln_kind c_ln_adpcmSpeaker_bits c_ln_adpcmSpeaker_se c_ln_adpcmSpeaker_sz c_ln_adpcmSpeaker_step f_ln_adpcmSpeaker_numbers c_ln_wideSpeaker_secondHeard f_ln_wideSpeaker_low_numbers f_ln_wideSpeaker_high_numbers f_ln_wideSpeaker_x) H locs) => ?_)
      refine lv_if_ne (tgt := 27) hx hb dX6_say_21 (by decide) (fun h9 => ?_) (fun h9 => ?_)
      · have hf := pq_brf hf h9
        refine lv_aload_n hx hb dX6_say_27 rfl (lv_at hl 0 rfl) ?_
        refine lv_iload_n hx hb dX6_say_28 rfl (lv_at hl 3 rfl) ?_
        refine lv_iconst (v := (0 : Int32)) hx hb dX6_say_29 (by decide) ?_
        obtain ⟨⟨r10, c11, c12, c13, f14, f15, f16, f17⟩, hu18, hf⟩ := pq_clx hf
        have hf := pq_nmx hf r10 rfl
        have hf := pq_nmx hf c11 rfl
        have hf := pq_nmx hf c12 rfl
        have hf := pq_nmx hf c13 rfl
        have hf := pq_nmx hf f14 rfl
        have hf := pq_nmx hf f15 rfl
        have hf := pq_nmx hf f16 rfl
        have hf := pq_nmx hf f17 rfl
        refine pq_cvI (n := 2) (As := [.int a2, .int (0 : Int32)]) C hh (qX4_encode l D cI cL ln ln_adpcmHearer ln_wideHearer ln_adpcmSpeaker ln_adpcmSpeaker_numbers ln_wideSpeaker ln_wideSpeaker_low ln_wideSpeaker_low_numbers ln_wideSpeaker_high ln_wideSpeaker_high_numbers ln_wideSpeaker_x c_ln_kind c_ln_adpcmSpeaker_bits c_ln_adpcmSpeaker_se c_ln_adpcmSpeaker_sz c_ln_adpcmSpeaker_step f_ln_adpcmSpeaker_numbers c_ln_wideSpeaker_secondHeard f_ln_wideSpeaker_low_numbers f_ln_wideSpeaker_high_numbers f_ln_wideSpeaker_x a2 (0 : Int32) (r10, c11, c12, c13, f14, f15, f16, f17) hu18) (gvX4_encode hs (pq_m7 _ (List.mem_of_getElem? (i := 20) rfl))) rfl (by decide +kernel) ⟨Nat.le_of_ble_eq_true rfl, Nat.le_of_ble_eq_true rfl⟩ 2 3 rfl rfl rfl hl.1 rfl rfl (Nat.le_of_ble_eq_true rfl) dX6_say_30 ⟨Nat.zero_le _, Nat.zero_le _⟩ [2, 3, 4, 5, 6, 7, 8, 9, 10] [0, 1] [0, 1, 2, 3, 4, 5, 6, 7, 8, 9, 10] rfl rfl (by decide) (by decide) (by decide) rfl (fun H locs (hh : pq_H D A s (wX6_say_i cI cL La th th_tape th_result th_lines ln ln_adpcmHearer ln_wideHearer ln_adpcmSpeaker ln_adpcmSpeaker_numbers ln_wideSpeaker ln_wideSpeaker_low ln_wideSpeaker_low_numbers ln_wideSpeaker_high ln_wideSpeaker_high_numbers ln_wideSpeaker_x c_ln_kind c_ln_adpcmSpeaker_bits c11 c12 c13 f14 c_ln_wideSpeaker_secondHeard f15 f16 f17) H locs) => ?_)
        obtain rfl := Option.some.inj hf
        exact hret _ _ _ ls hh dX6_say_33 rfl
      · have hf := pq_brt hf h9
        refine lv_ldc (v := (-100000 : Int32)) hx hb hown kc34 dX6_say_24 ?_
        obtain rfl := Option.some.inj hf
        exact hret _ _ _ ls hh dX6_say_26 rfl
set_option maxHeartbeats 4000000 in
set_option maxRecDepth 100000 in
theorem qX6_pair_o (l : Launch) (D : va_G) (cI cL : ClassId) (th : Nat) (th_lines : Nat) (th_tape : Nat) (th_result : Nat) (a1 : Int32) (a2 : Int32) (a3 : Int32) (res : Int32) (hf : fX6_pair_o a1 a2 a3 = some res) : pq_CI l yX6_pair qsX6_pair 6 149 D cI cL [.ref th, .int a1, .int a2, .int a3] (wX6_pair_o cI th th_lines th_tape th_result) (wX6_pair_o cI th th_lines th_tape th_result) res := by
  refine pq_mkI (cc := cX6_pair) (maxL := 5) (RT := .int) (by decide) rfl (Nat.le_of_ble_eq_true rfl) ?_
  intro p e s m args below meth c Q A C hh hret ls hl
  have hx := C.1
  have hb := C.2.1
  have hml := C.2.2.1
  have hown : s.vm.findClass RX6 = some m.cls := C.2.2.2.1
  have hs : ∀ w ∈ wsL_law, w ∈ qsX6_pair := fun _ h => List.mem_cons_of_mem _ h
  have htw : ∀ w ∈ wsL_law, w.before args s = true := fun w h => C.2.2.2.2.1 w (hs w h)
  have hl : lv_has ls 5 [(0, .ref th), (1, .int a1), (2, .int a2), (3, .int a3)] := hl
  have kc34 := htw (.constant RX6 34 (-100000)) (pq_m7 _ (List.mem_of_getElem? (i := 3) rfl))
  rw [fX6_pair_o] at hf
  refine lv_aload_n hx hb dX6_pair_0 rfl (lv_at hl 0 rfl) ?_
  refine lv_iload_n hx hb dX6_pair_1 rfl (lv_at hl 1 rfl) ?_
  obtain ⟨u2, hu1, hf⟩ := pq_clx hf
  refine pq_cvQ (n := 1) (As := [.int a1]) C hh (qX6_openLine_o l D cI cL th th_lines th_tape th_result a1 u2 hu1) (gvX6_openLine hs (pq_m7 _ (List.mem_of_getElem? (i := 4) rfl))) rfl (by decide +kernel) ⟨Nat.le_of_ble_eq_true rfl, Nat.le_of_ble_eq_true rfl⟩ 0 5 rfl rfl rfl hl.1 rfl rfl (Nat.le_of_ble_eq_true rfl) dX6_pair_2 ⟨Nat.zero_le _, Nat.zero_le _⟩ [0] [] [0] rfl rfl (by decide) (by decide) (by decide) rfl (fun H locs (hh : pq_H D A s (wX6_pair_o cI th th_lines th_tape th_result) H locs) => ?_)
  refine lv_astoreN (lv' := [(4, .null), (0, .ref th), (1, .int a1), (2, .int a2), (3, .int a3)]) hx hb dX6_pair_5 hl (by decide) rfl (fun ls hl => ?_)
  refine lv_aloadN hx hb dX6_pair_7 (lv_at hl 0 rfl) ?_
  refine lv_ifnullN (tgt := 34) hx hb dX6_pair_9 (by decide) ?_
  refine lv_ldc (v := (-100000 : Int32)) hx hb hown kc34 dX6_pair_34 ?_
  obtain rfl := Option.some.inj hf
  exact hret _ _ _ ls hh dX6_pair_36 rfl
set_option maxHeartbeats 4000000 in
set_option maxRecDepth 100000 in
theorem qX6_pair_i (l : Launch) (D : va_G) (cI cL : ClassId) (La : Nat → Nat) (th : Nat) (th_tape : Nat) (th_result : Nat) (th_lines : Nat) (ln : Nat) (ln_adpcmHearer : Nat) (ln_wideHearer : Nat) (ln_adpcmSpeaker : Nat) (ln_adpcmSpeaker_numbers : Nat) (ln_wideSpeaker : Nat) (ln_wideSpeaker_low : Nat) (ln_wideSpeaker_low_numbers : Nat) (ln_wideSpeaker_high : Nat) (ln_wideSpeaker_high_numbers : Nat) (ln_wideSpeaker_x : Nat) (c_ln_kind : Int32) (c_ln_adpcmSpeaker_bits : Int32) (c_ln_adpcmSpeaker_se : Int32) (c_ln_adpcmSpeaker_sz : Int32) (c_ln_adpcmSpeaker_step : Int32) (f_ln_adpcmSpeaker_numbers : Nat → Int32) (c_ln_wideSpeaker_secondHeard : Int32) (f_ln_wideSpeaker_low_numbers : Nat → Int32) (f_ln_wideSpeaker_high_numbers : Nat → Int32) (f_ln_wideSpeaker_x : Nat → Int32) (a1 : Int32) (a2 : Int32) (a3 : Int32) (hLa1 : La a1.toNatClampNeg = ln) (res : Int32 × Int32 × Int32 × Int32 × (Nat → Int32) × (Nat → Int32) × (Nat → Int32) × (Nat → Int32)) (hf : fX6_pair_i a1 a2 a3 c_ln_kind c_ln_adpcmSpeaker_bits c_ln_adpcmSpeaker_se c_ln_adpcmSpeaker_sz c_ln_adpcmSpeaker_step f_ln_adpcmSpeaker_numbers f_ln_wideSpeaker_low_numbers f_ln_wideSpeaker_high_numbers f_ln_wideSpeaker_x = some res) : pq_CI l yX6_pair qsX6_pair 6 149 D cI cL [.ref th, .int a1, .int a2, .int a3] (wX6_pair_i cI cL La th th_tape th_result th_lines ln ln_adpcmHearer ln_wideHearer ln_adpcmSpeaker ln_adpcmSpeaker_numbers ln_wideSpeaker ln_wideSpeaker_low ln_wideSpeaker_low_numbers ln_wideSpeaker_high ln_wideSpeaker_high_numbers ln_wideSpeaker_x c_ln_kind c_ln_adpcmSpeaker_bits c_ln_adpcmSpeaker_se c_ln_adpcmSpeaker_sz c_ln_adpcmSpeaker_step f_ln_adpcmSpeaker_numbers c_ln_wideSpeaker_secondHeard f_ln_wideSpeaker_low_numbers f_ln_wideSpeaker_high_numbers f_ln_wideSpeaker_x) (wX6_pair_i cI cL La th th_tape th_result th_lines ln ln_adpcmHearer ln_wideHearer ln_adpcmSpeaker ln_adpcmSpeaker_numbers ln_wideSpeaker ln_wideSpeaker_low ln_wideSpeaker_low_numbers ln_wideSpeaker_high ln_wideSpeaker_high_numbers ln_wideSpeaker_x c_ln_kind c_ln_adpcmSpeaker_bits res.2.1 res.2.2.1 res.2.2.2.1 res.2.2.2.2.1 c_ln_wideSpeaker_secondHeard res.2.2.2.2.2.1 res.2.2.2.2.2.2.1 res.2.2.2.2.2.2.2) res.1 := by
  refine pq_mkI (cc := cX6_pair) (maxL := 5) (RT := .int) (by decide) rfl (Nat.le_of_ble_eq_true rfl) ?_
  intro p e s m args below meth c Q A C hh hret ls hl
  have hx := C.1
  have hb := C.2.1
  have hml := C.2.2.1
  have hown : s.vm.findClass RX6 = some m.cls := C.2.2.2.1
  have hs : ∀ w ∈ wsL_law, w ∈ qsX6_pair := fun _ h => List.mem_cons_of_mem _ h
  have htw : ∀ w ∈ wsL_law, w.before args s = true := fun w h => C.2.2.2.2.1 w (hs w h)
  have hl : lv_has ls 5 [(0, .ref th), (1, .int a1), (2, .int a2), (3, .int a3)] := hl
  have kc34 := htw (.constant RX6 34 (-100000)) (pq_m7 _ (List.mem_of_getElem? (i := 3) rfl))
  rw [fX6_pair_i] at hf
  refine lv_aload_n hx hb dX6_pair_0 rfl (lv_at hl 0 rfl) ?_
  refine lv_iload_n hx hb dX6_pair_1 rfl (lv_at hl 1 rfl) ?_
  obtain ⟨r1, hu2, hf⟩ := pq_clx hf
  refine pq_cvQ (n := 1) (As := [.int a1]) C hh (qX6_openLine_i l D cI cL La th th_tape th_result th_lines ln ln_adpcmSpeaker ln_adpcmHearer ln_wideSpeaker ln_wideHearer c_ln_kind a1 hLa1 r1 hu2) (gvX6_openLine hs (pq_m7 _ (List.mem_of_getElem? (i := 4) rfl))) rfl (by decide +kernel) ⟨Nat.le_of_ble_eq_true rfl, Nat.le_of_ble_eq_true rfl⟩ 0 5 rfl rfl rfl hl.1 rfl rfl (Nat.le_of_ble_eq_true rfl) dX6_pair_2 ⟨Nat.zero_le _, Nat.zero_le _⟩ [0, 1, 2] [3, 4, 5, 6, 7, 8, 9, 10] [8, 9, 10, 0, 1, 2, 3, 4, 5, 6, 7] rfl rfl (by decide) (by decide) (by decide) rfl (fun H locs (hh : pq_H D A s (wX6_pair_i cI cL La th th_tape th_result th_lines ln ln_adpcmHearer ln_wideHearer ln_adpcmSpeaker ln_adpcmSpeaker_numbers ln_wideSpeaker ln_wideSpeaker_low ln_wideSpeaker_low_numbers ln_wideSpeaker_high ln_wideSpeaker_high_numbers ln_wideSpeaker_x c_ln_kind c_ln_adpcmSpeaker_bits c_ln_adpcmSpeaker_se c_ln_adpcmSpeaker_sz c_ln_adpcmSpeaker_step f_ln_adpcmSpeaker_numbers c_ln_wideSpeaker_secondHeard f_ln_wideSpeaker_low_numbers f_ln_wideSpeaker_high_numbers f_ln_wideSpeaker_x) H locs) => ?_)
  by_cases h3 : r1 = 0
  · have hf := pq_brt hf h3
    rw [if_pos h3]
    refine W.eq (g2 := F0 m 5 ls [.null]) rfl ?_
    refine lv_astoreN (lv' := [(4, .null), (0, .ref th), (1, .int a1), (2, .int a2), (3, .int a3)]) hx hb dX6_pair_5 hl (by decide) rfl (fun ls hl => ?_)
    refine lv_aloadN hx hb dX6_pair_7 (lv_at hl 0 rfl) ?_
    refine lv_ifnullN (tgt := 34) hx hb dX6_pair_9 (by decide) ?_
    refine lv_ldc (v := (-100000 : Int32)) hx hb hown kc34 dX6_pair_34 ?_
    obtain rfl := Option.some.inj hf
    exact hret _ _ _ ls hh dX6_pair_36 rfl
  · have hf := pq_brf hf h3
    rw [if_neg h3]
    refine W.eq (g2 := F0 m 5 ls [.ref ln]) rfl ?_
    refine lv_astore (lv' := [(4, .ref ln), (0, .ref th), (1, .int a1), (2, .int a2), (3, .int a3)]) hx hb dX6_pair_5 hl (by decide) rfl (fun ls hl => ?_)
    refine lv_aload hx hb dX6_pair_7 (lv_at hl 0 rfl) ?_
    refine lv_ifnull hx hb dX6_pair_9 ?_
    refine lv_aload hx hb dX6_pair_12 (lv_at hl 0 rfl) ?_
    obtain ⟨r4, hu5, hf⟩ := pq_clx hf
    refine pq_cvI (n := 0) (As := []) C hh (qX4_isWide l D cI cL ln ln_adpcmSpeaker ln_adpcmHearer ln_wideSpeaker ln_wideHearer c_ln_kind r4 hu5) (gvX4_isWide hs (pq_m7 _ (List.mem_of_getElem? (i := 16) rfl))) rfl (by decide +kernel) ⟨Nat.le_of_ble_eq_true rfl, Nat.le_of_ble_eq_true rfl⟩ 2 3 rfl rfl rfl hl.1 rfl rfl (Nat.le_of_ble_eq_true rfl) dX6_pair_14 ⟨Nat.zero_le _, Nat.zero_le _⟩ [2] [0, 1, 3, 4, 5, 6, 7, 8, 9, 10] [0, 1, 10, 2, 3, 4, 5, 6, 7, 8, 9] rfl rfl (by decide) (by decide) (by decide) rfl (fun H locs (hh : pq_H D A s (wX6_pair_i cI cL La th th_tape th_result th_lines ln ln_adpcmHearer ln_wideHearer ln_adpcmSpeaker ln_adpcmSpeaker_numbers ln_wideSpeaker ln_wideSpeaker_low ln_wideSpeaker_low_numbers ln_wideSpeaker_high ln_wideSpeaker_high_numbers ln_wideSpeaker_x c_ln_kind c_ln_adpcmSpeaker_bits c_ln_adpcmSpeaker_se c_ln_adpcmSpeaker_sz c_ln_adpcmSpeaker_step f_ln_adpcmSpeaker_numbers c_ln_wideSpeaker_secondHeard f_ln_wideSpeaker_low_numbers f_ln_wideSpeaker_high_numbers f_ln_wideSpeaker_x) H locs) => ?_)
    refine lv_if_eq (tgt := 34) hx hb dX6_pair_17 (by decide) (fun h6 => ?_) (fun h6 => ?_)
    · have hf := pq_brt hf h6
      refine lv_ldc (v := (-100000 : Int32)) hx hb hown kc34 dX6_pair_34 ?_
      obtain rfl := Option.some.inj hf
      exact hret _ _ _ ls hh dX6_pair_36 rfl
    · have hf := pq_brf hf h6
      refine lv_iload_n hx hb dX6_pair_20 rfl (lv_at hl 3 rfl) ?_
      obtain ⟨r7, hu8, hf⟩ := pq_clx hf
      refine pq_csI (n := 1) (As := [.int a2]) C hh (qX6_isSample l D cI cL a2 r7 hu8) (gsX6_isSample hs (pq_m7 _ (List.mem_of_getElem? (i := 17) rfl))) rfl (by decide +kernel) ⟨Nat.le_of_ble_eq_true rfl, Nat.le_of_ble_eq_true rfl⟩ hl.1 rfl rfl (Nat.le_of_ble_eq_true rfl) dX6_pair_21 ⟨Nat.zero_le _, Nat.zero_le _⟩ [] [0, 1, 2, 3, 4, 5, 6, 7, 8, 9, 10] [0, 1, 2, 3, 4, 5, 6, 7, 8, 9, 10] rfl rfl (by decide) (by decide) (by decide) rfl (fun H locs (hh : pq_H D A s (wX6_pair_i cI cL La th th_tape th_result th_lines ln ln_adpcmHearer ln_wideHearer ln_adpcmSpeaker ln_adpcmSpeaker_numbers ln_wideSpeaker ln_wideSpeaker_low ln_wideSpeaker_low_numbers ln_wideSpeaker_high ln_wideSpeaker_high_numbers ln_wideSpeaker_x c_ln_kind c_ln_adpcmSpeaker_bits c_ln_adpcmSpeaker_se c_ln_adpcmSpeaker_sz c_ln_adpcmSpeaker_step f_ln_adpcmSpeaker_numbers c_ln_wideSpeaker_secondHeard f_ln_wideSpeaker_low_numbers f_ln_wideSpeaker_high_numbers f_ln_wideSpeaker_x) H locs) => ?_)
      refine lv_if_eq (tgt := 34) hx hb dX6_pair_24 (by decide) (fun h9 => ?_) (fun h9 => ?_)
      · have hf := pq_brt hf h9
        refine lv_ldc (v := (-100000 : Int32)) hx hb hown kc34 dX6_pair_34 ?_
        obtain rfl := Option.some.inj hf
        exact hret _ _ _ ls hh dX6_pair_36 rfl
      · have hf := pq_brf hf h9
        refine lv_iload_n hx hb dX6_pair_27 rfl (lv_at hl 4 rfl) ?_
        obtain ⟨r10, hu11, hf⟩ := pq_clx hf
        refine pq_csI (n := 1) (As := [.int a3]) C hh (qX6_isSample l D cI cL a3 r10 hu11) (gsX6_isSample hs (pq_m7 _ (List.mem_of_getElem? (i := 17) rfl))) rfl (by decide +kernel) ⟨Nat.le_of_ble_eq_true rfl, Nat.le_of_ble_eq_true rfl⟩ hl.1 rfl rfl (Nat.le_of_ble_eq_true rfl) dX6_pair_28 ⟨Nat.zero_le _, Nat.zero_le _⟩ [] [0, 1, 2, 3, 4, 5, 6, 7, 8, 9, 10] [0, 1, 2, 3, 4, 5, 6, 7, 8, 9, 10] rfl rfl (by decide) (by decide) (by decide) rfl (fun H locs (hh : pq_H D A s (wX6_pair_i cI cL La th th_tape th_result th_lines ln ln_adpcmHearer ln_wideHearer ln_adpcmSpeaker ln_adpcmSpeaker_numbers ln_wideSpeaker ln_wideSpeaker_low ln_wideSpeaker_low_numbers ln_wideSpeaker_high ln_wideSpeaker_high_numbers ln_wideSpeaker_x c_ln_kind c_ln_adpcmSpeaker_bits c_ln_adpcmSpeaker_se c_ln_adpcmSpeaker_sz c_ln_adpcmSpeaker_step f_ln_adpcmSpeaker_numbers c_ln_wideSpeaker_secondHeard f_ln_wideSpeaker_low_numbers f_ln_wideSpeaker_high_numbers f_ln_wideSpeaker_x) H locs) => ?_)
        refine lv_if_ne (tgt := 37) hx hb dX6_pair_31 (by decide) (fun h12 => ?_) (fun h12 => ?_)
        · have hf := pq_brf hf h12
          refine lv_aload hx hb dX6_pair_37 (lv_at hl 0 rfl) ?_
          refine lv_iload_n hx hb dX6_pair_39 rfl (lv_at hl 3 rfl) ?_
          refine lv_iload_n hx hb dX6_pair_40 rfl (lv_at hl 4 rfl) ?_
          obtain ⟨⟨r13, c14, c15, c16, f17, f18, f19, f20⟩, hu21, hf⟩ := pq_clx hf
          have hf := pq_nmx hf r13 rfl
          have hf := pq_nmx hf c14 rfl
          have hf := pq_nmx hf c15 rfl
          have hf := pq_nmx hf c16 rfl
          have hf := pq_nmx hf f17 rfl
          have hf := pq_nmx hf f18 rfl
          have hf := pq_nmx hf f19 rfl
          have hf := pq_nmx hf f20 rfl
          refine pq_cvI (n := 2) (As := [.int a2, .int a3]) C hh (qX4_encode l D cI cL ln ln_adpcmHearer ln_wideHearer ln_adpcmSpeaker ln_adpcmSpeaker_numbers ln_wideSpeaker ln_wideSpeaker_low ln_wideSpeaker_low_numbers ln_wideSpeaker_high ln_wideSpeaker_high_numbers ln_wideSpeaker_x c_ln_kind c_ln_adpcmSpeaker_bits c_ln_adpcmSpeaker_se c_ln_adpcmSpeaker_sz c_ln_adpcmSpeaker_step f_ln_adpcmSpeaker_numbers c_ln_wideSpeaker_secondHeard f_ln_wideSpeaker_low_numbers f_ln_wideSpeaker_high_numbers f_ln_wideSpeaker_x a2 a3 (r13, c14, c15, c16, f17, f18, f19, f20) hu21) (gvX4_encode hs (pq_m7 _ (List.mem_of_getElem? (i := 20) rfl))) rfl (by decide +kernel) ⟨Nat.le_of_ble_eq_true rfl, Nat.le_of_ble_eq_true rfl⟩ 2 3 rfl rfl rfl hl.1 rfl rfl (Nat.le_of_ble_eq_true rfl) dX6_pair_41 ⟨Nat.zero_le _, Nat.zero_le _⟩ [2, 3, 4, 5, 6, 7, 8, 9, 10] [0, 1] [0, 1, 2, 3, 4, 5, 6, 7, 8, 9, 10] rfl rfl (by decide) (by decide) (by decide) rfl (fun H locs (hh : pq_H D A s (wX6_pair_i cI cL La th th_tape th_result th_lines ln ln_adpcmHearer ln_wideHearer ln_adpcmSpeaker ln_adpcmSpeaker_numbers ln_wideSpeaker ln_wideSpeaker_low ln_wideSpeaker_low_numbers ln_wideSpeaker_high ln_wideSpeaker_high_numbers ln_wideSpeaker_x c_ln_kind c_ln_adpcmSpeaker_bits c14 c15 c16 f17 c_ln_wideSpeaker_secondHeard f18 f19 f20) H locs) => ?_)
          obtain rfl := Option.some.inj hf
          exact hret _ _ _ ls hh dX6_pair_44 rfl
        · have hf := pq_brt hf h12
          refine lv_ldc (v := (-100000 : Int32)) hx hb hown kc34 dX6_pair_34 ?_
          obtain rfl := Option.some.inj hf
          exact hret _ _ _ ls hh dX6_pair_36 rfl
set_option maxHeartbeats 4000000 in
set_option maxRecDepth 100000 in
theorem qX6_hear_o (l : Launch) (D : va_G) (cI cL : ClassId) (th : Nat) (th_lines : Nat) (th_tape : Nat) (th_result : Nat) (a1 : Int32) (a2 : Int32) (res : Int32) (hf : fX6_hear_o a1 a2 = some res) : pq_CI l yX6_hear qsX6_hear 6 148 D cI cL [.ref th, .int a1, .int a2] (wX6_hear_o cI th th_lines th_tape th_result) (wX6_hear_o cI th th_lines th_tape th_result) res := by
  refine pq_mkI (cc := cX6_hear) (maxL := 4) (RT := .int) (by decide) rfl (Nat.le_of_ble_eq_true rfl) ?_
  intro p e s m args below meth c Q A C hh hret ls hl
  have hx := C.1
  have hb := C.2.1
  have hml := C.2.2.1
  have hown : s.vm.findClass RX6 = some m.cls := C.2.2.2.1
  have hs : ∀ w ∈ wsL_law, w ∈ qsX6_hear := fun _ h => List.mem_cons_of_mem _ h
  have htw : ∀ w ∈ wsL_law, w.before args s = true := fun w h => C.2.2.2.2.1 w (hs w h)
  have hl : lv_has ls 4 [(0, .ref th), (1, .int a1), (2, .int a2)] := hl
  have kc34 := htw (.constant RX6 34 (-100000)) (pq_m7 _ (List.mem_of_getElem? (i := 3) rfl))
  rw [fX6_hear_o] at hf
  refine lv_aload_n hx hb dX6_hear_0 rfl (lv_at hl 0 rfl) ?_
  refine lv_iload_n hx hb dX6_hear_1 rfl (lv_at hl 1 rfl) ?_
  obtain ⟨u2, hu1, hf⟩ := pq_clx hf
  refine pq_cvQ (n := 1) (As := [.int a1]) C hh (qX6_openLine_o l D cI cL th th_lines th_tape th_result a1 u2 hu1) (gvX6_openLine hs (pq_m7 _ (List.mem_of_getElem? (i := 4) rfl))) rfl (by decide +kernel) ⟨Nat.le_of_ble_eq_true rfl, Nat.le_of_ble_eq_true rfl⟩ 0 5 rfl rfl rfl hl.1 rfl rfl (Nat.le_of_ble_eq_true rfl) dX6_hear_2 ⟨Nat.zero_le _, Nat.zero_le _⟩ [0] [] [0] rfl rfl (by decide) (by decide) (by decide) rfl (fun H locs (hh : pq_H D A s (wX6_hear_o cI th th_lines th_tape th_result) H locs) => ?_)
  refine lv_astore_nN (lv' := [(3, .null), (0, .ref th), (1, .int a1), (2, .int a2)]) hx hb dX6_hear_5 rfl hl (by decide) rfl (fun ls hl => ?_)
  refine lv_aload_nN hx hb dX6_hear_6 rfl (lv_at hl 0 rfl) ?_
  refine lv_ifnullN (tgt := 18) hx hb dX6_hear_7 (by decide) ?_
  refine lv_ldc (v := (-100000 : Int32)) hx hb hown kc34 dX6_hear_18 ?_
  obtain rfl := Option.some.inj hf
  exact hret _ _ _ ls hh dX6_hear_20 rfl
