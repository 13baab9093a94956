set_option maxHeartbeats 4000000 in
set_option maxRecDepth 100000 in
theorem qX6_unpack_i (l : Launch) (D : va_G) (cI cL : ClassId) (La : Nat → Nat) (th : Nat) (th_lines : Nat) (th_tape : Nat) (th_tape_row : Nat) (th_result : Nat) (th_result_row : Nat) (ln : Nat) (ln_adpcmSpeaker : Nat) (ln_wideSpeaker : Nat) (ln_adpcmHearer : Nat) (ln_adpcmHearer_numbers : Nat) (ln_wideHearer : Nat) (ln_wideHearer_low : Nat) (ln_wideHearer_low_numbers : Nat) (ln_wideHearer_high : Nat) (ln_wideHearer_high_numbers : Nat) (ln_wideHearer_x : Nat) (c_tape_length : Int32) (f_tape_row : Nat → Int32) (c_result_length : Int32) (f_result_row : Nat → Int32) (c_ln_kind : Int32) (c_ln_adpcmHearer_bits : Int32) (c_ln_adpcmHearer_se : Int32) (c_ln_adpcmHearer_sz : Int32) (c_ln_adpcmHearer_step : Int32) (f_ln_adpcmHearer_numbers : Nat → Int32) (c_ln_wideHearer_secondHeard : Int32) (f_ln_wideHearer_low_numbers : Nat → Int32) (f_ln_wideHearer_high_numbers : Nat → Int32) (f_ln_wideHearer_x : Nat → Int32) (a1 : Int32) (a2 : Int32) (a3 : Int32) (hLa1 : La a1.toNatClampNeg = ln) (res : Int32 × Int32 × Int32 × (Nat → Int32) × Int32 × Int32 × Int32 × (Nat → Int32) × Int32 × (Nat → Int32) × (Nat → Int32) × (Nat → Int32)) (hf : fX6_unpack_i a1 a2 a3 f_tape_row c_ln_kind c_ln_adpcmHearer_bits c_tape_length c_result_length f_result_row c_ln_adpcmHearer_se c_ln_adpcmHearer_sz c_ln_adpcmHearer_step f_ln_adpcmHearer_numbers c_ln_wideHearer_secondHeard f_ln_wideHearer_low_numbers f_ln_wideHearer_high_numbers f_ln_wideHearer_x = some res) : pq_CI l yX6_unpack qsX6_unpack 6 148 D cI cL [.ref th, .int a1, .int a2, .int a3] (wX6_unpack_i cI cL La th th_lines th_tape th_tape_row th_result th_result_row ln ln_adpcmSpeaker ln_wideSpeaker ln_adpcmHearer ln_adpcmHearer_numbers ln_wideHearer ln_wideHearer_low ln_wideHearer_low_numbers ln_wideHearer_high ln_wideHearer_high_numbers ln_wideHearer_x c_tape_length f_tape_row c_result_length f_result_row c_ln_kind c_ln_adpcmHearer_bits c_ln_adpcmHearer_se c_ln_adpcmHearer_sz c_ln_adpcmHearer_step f_ln_adpcmHearer_numbers c_ln_wideHearer_secondHeard f_ln_wideHearer_low_numbers f_ln_wideHearer_high_numbers f_ln_wideHearer_x) (wX6_unpack_i cI cL La th th_lines th_tape th_tape_row th_result th_result_row ln ln_adpcmSpeaker ln_wideSpeaker ln_adpcmHearer ln_adpcmHearer_numbers ln_wideHearer ln_wideHearer_low ln_wideHearer_low_numbers ln_wideHearer_high ln_wideHearer_high_numbers ln_wideHearer_x res.2.1 f_tape_row res.2.2.1 res.2.2.2.1 c_ln_kind c_ln_adpcmHearer_bits res.2.2.2.2.1 res.2.2.2.2.2.1 res.2.2.2.2.2.2.1 res.2.2.2.2.2.2.2.1 res.2.2.2.2.2.2.2.2.1 res.2.2.2.2.2.2.2.2.2.1 res.2.2.2.2.2.2.2.2.2.2.1 res.2.2.2.2.2.2.2.2.2.2.2) res.1 := by
  refine pq_mkI (cc := cX6_unpack) (maxL := 7) (RT := .int) (by decide) rfl (Nat.le_of_ble_eq_true rfl) ?_
  intro p e s m args below meth c Q A C hh hret ls hl
  have hx := C.1
  have hb := C.2.1
  have hml := C.2.2.1
  have hown : s.vm.findClass RX6 = some m.cls := C.2.2.2.1
  have hs : ∀ w ∈ wsL_law, w ∈ qsX6_unpack := fun _ h => List.mem_cons_of_mem _ h
  have htw : ∀ w ∈ wsL_law, w.before args s = true := fun w h => C.2.2.2.2.1 w (hs w h)
  have hl : lv_has ls 7 [(0, .ref th), (1, .int a1), (2, .int a2), (3, .int a3)] := hl
  have i2 : ∀ w ∈ wsX20, w ∈ qsX6_unpack := fun w h => hs w (pq_i2 w h)
  have i6 : ∀ w ∈ wsX60, w ∈ qsX6_unpack := fun w h => hs w (pq_i6 w h)
  have kc34 := htw (.constant RX6 34 (-100000)) (pq_m7 _ (List.mem_of_getElem? (i := 3) rfl))
  have kf19 := htw (.fieldLink RX6 19 "VoiceDesk" "tape" "LVoiceDesk$Bytes;") (pq_m1 _ (List.mem_of_getElem? (i := 19) rfl))
  have kf23 := htw (.fieldLink RX6 23 "VoiceDesk" "result" "LVoiceDesk$Bytes;") (pq_m1 _ (List.mem_of_getElem? (i := 20) rfl))
  have J64 : ∀ (fuel64 : Nat) (x2 : Int32) (x3 : Int32) (x5 : Int32) (x6 : Int32) (c_tape_length : Int32) (c_result_length : Int32) (f_result_row : Nat → Int32) (c_ln_adpcmHearer_se : Int32) (c_ln_adpcmHearer_sz : Int32) (c_ln_adpcmHearer_step : Int32) (f_ln_adpcmHearer_numbers : Nat → Int32) (c_ln_wideHearer_secondHeard : Int32) (f_ln_wideHearer_low_numbers : Nat → Int32) (f_ln_wideHearer_high_numbers : Nat → Int32) (f_ln_wideHearer_x : Nat → Int32) (H : Heap) (locs : List Loc), pq_H D A s (wX6_unpack_i cI cL La th th_lines th_tape th_tape_row th_result th_result_row ln ln_adpcmSpeaker ln_wideSpeaker ln_adpcmHearer ln_adpcmHearer_numbers ln_wideHearer ln_wideHearer_low ln_wideHearer_low_numbers ln_wideHearer_high ln_wideHearer_high_numbers ln_wideHearer_x c_tape_length f_tape_row c_result_length f_result_row c_ln_kind c_ln_adpcmHearer_bits c_ln_adpcmHearer_se c_ln_adpcmHearer_sz c_ln_adpcmHearer_step f_ln_adpcmHearer_numbers c_ln_wideHearer_secondHeard f_ln_wideHearer_low_numbers f_ln_wideHearer_high_numbers f_ln_wideHearer_x) H locs → ∀ ls : Array Slot, lv_has ls 7 [(0, .ref th), (2, .int x2), (3, .int x3), (4, .ref ln), (5, .int x5), (6, .int x6)] → fX6_unpack_i_b64  f_tape_row c_ln_kind c_ln_adpcmHearer_bits fuel64 x2 x3 x5 x6 c_tape_length c_result_length f_result_row c_ln_adpcmHearer_se c_ln_adpcmHearer_sz c_ln_adpcmHearer_step f_ln_adpcmHearer_numbers c_ln_wideHearer_secondHeard f_ln_wideHearer_low_numbers f_ln_wideHearer_high_numbers f_ln_wideHearer_x = some res → W p l e (pq_rm 6 148) s m args below meth c H locs 0 0 Q (F0 m 64 ls []) := by
    intro fuel64
    induction fuel64 with
    | zero => intro x2 x3 x5 x6 c_tape_length c_result_length f_result_row c_ln_adpcmHearer_se c_ln_adpcmHearer_sz c_ln_adpcmHearer_step f_ln_adpcmHearer_numbers c_ln_wideHearer_secondHeard f_ln_wideHearer_low_numbers f_ln_wideHearer_high_numbers f_ln_wideHearer_x H locs hh ls hl hf; rw [fX6_unpack_i_b64] at hf; cases hf
    | succ fuel64 ih64 =>
      have J114 : ∀ (x2 : Int32) (x3 : Int32) (x5 : Int32) (x6 : Int32) (c_tape_length : Int32) (c_result_length : Int32) (f_result_row : Nat → Int32) (c_ln_adpcmHearer_se : Int32) (c_ln_adpcmHearer_sz : Int32) (c_ln_adpcmHearer_step : Int32) (f_ln_adpcmHearer_numbers : Nat → Int32) (c_ln_wideHearer_secondHeard : Int32) (f_ln_wideHearer_low_numbers : Nat → Int32) (f_ln_wideHearer_high_numbers : Nat → Int32) (f_ln_wideHearer_x : Nat → Int32) (H : Heap) (locs : List Loc), pq_H D A s (wX6_unpack_i cI cL La th th_lines th_tape th_tape_row th_result th_result_row ln ln_adpcmSpeaker ln_wideSpeaker ln_adpcmHearer ln_adpcmHearer_numbers ln_wideHearer ln_wideHearer_low ln_wideHearer_low_numbers ln_wideHearer_high ln_wideHearer_high_numbers ln_wideHearer_x c_tape_length f_tape_row c_result_length f_result_row c_ln_kind c_ln_adpcmHearer_bits c_ln_adpcmHearer_se c_ln_adpcmHearer_sz c_ln_adpcmHearer_step f_ln_adpcmHearer_numbers c_ln_wideHearer_secondHeard f_ln_wideHearer_low_numbers f_ln_wideHearer_high_numbers f_ln_wideHearer_x) H locs → ∀ ls : Array Slot, lv_has ls 7 [(0, .ref th), (2, .int x2), (3, .int x3), (4, .ref ln), (5, .int x5), (6, .int x6)] → fX6_unpack_i_b114 (fX6_unpack_i_b64  f_tape_row c_ln_kind c_ln_adpcmHearer_bits fuel64) f_tape_row c_ln_kind c_ln_adpcmHearer_bits x2 x3 x5 x6 c_tape_length c_result_length f_result_row c_ln_adpcmHearer_se c_ln_adpcmHearer_sz c_ln_adpcmHearer_step f_ln_adpcmHearer_numbers c_ln_wideHearer_secondHeard f_ln_wideHearer_low_numbers f_ln_wideHearer_high_numbers f_ln_wideHearer_x = some res → W p l e (pq_rm 6 148) s m args below meth c H locs 0 0 Q (F0 m 114 ls []) := by
        intro x2 x3 x5 x6 c_tape_length c_result_length f_result_row c_ln_adpcmHearer_se c_ln_adpcmHearer_sz c_ln_adpcmHearer_step f_ln_adpcmHearer_numbers c_ln_wideHearer_secondHeard f_ln_wideHearer_low_numbers f_ln_wideHearer_high_numbers f_ln_wideHearer_x H locs hh ls hl hf
        rw [fX6_unpack_i_b114] at hf
        obtain ⟨v38, e39⟩ : ∃ y : Int32, y = x6 + (1 : Int32) := ⟨_, rfl⟩
        refine lv_iinc (v := v38) (lv' := [(6, .int v38), (0, .ref th), (2, .int x2), (3, .int x3), (4, .ref ln), (5, .int x5)]) hx hb dX6_unpack_114 hl (k := 5) rfl (by rw [e39]; rfl) (by decide) rfl (fun ls hl => ?_)
        have hf := pq_nmx hf v38 e39
        refine lv_goto (tgt := 64) hx hb dX6_unpack_117 (by decide) ?_
        exact ih64 x2 x3 x5 v38 c_tape_length c_result_length f_result_row c_ln_adpcmHearer_se c_ln_adpcmHearer_sz c_ln_adpcmHearer_step f_ln_adpcmHearer_numbers c_ln_wideHearer_secondHeard f_ln_wideHearer_low_numbers f_ln_wideHearer_high_numbers f_ln_wideHearer_x _ _ hh ls (lv_sub hl [1, 2, 3, 4, 5, 0] rfl) hf
      intro x2 x3 x5 x6 c_tape_length c_result_length f_result_row c_ln_adpcmHearer_se c_ln_adpcmHearer_sz c_ln_adpcmHearer_step f_ln_adpcmHearer_numbers c_ln_wideHearer_secondHeard f_ln_wideHearer_low_numbers f_ln_wideHearer_high_numbers f_ln_wideHearer_x H locs hh ls hl hf
      rw [fX6_unpack_i_b64] at hf
      refine lv_iload hx hb dX6_unpack_64 (lv_at hl 5 rfl) ?_
      refine lv_iload_n hx hb dX6_unpack_66 rfl (lv_at hl 2 rfl) ?_
      refine lv_icmp_ge (tgt := 120) hx hb dX6_unpack_67 (by decide) (fun h11 => ?_) (fun h11 => ?_)
      · have hf := pq_brt hf h11
        refine lv_aload_n hx hb dX6_unpack_120 rfl (lv_at hl 0 rfl) ?_
        refine pq_get C hh i6 0 5 rfl rfl 1 (by decide) kf19 rfl rfl dX6_unpack_121 ?_
        refine lv_iconst (v := (0 : Int32)) hx hb dX6_unpack_124 (by decide) ?_
        refine pq_putN (ty := .int) (v := .int (0 : Int32)) (host := "VoiceDesk") C hh i2 tyX2 tyX2_ok nmX2 2 2 rfl rfl 1 (by decide) (List.mem_of_getElem? (i := 2) rfl) rfl rfl (by decide +kernel) rfl rfl (Nat.le_of_ble_eq_true rfl) dX6_unpack_125 (fun H locs (hh : pq_H D A s (wX6_unpack_i cI cL La th th_lines th_tape th_tape_row th_result th_result_row ln ln_adpcmSpeaker ln_wideSpeaker ln_adpcmHearer ln_adpcmHearer_numbers ln_wideHearer ln_wideHearer_low ln_wideHearer_low_numbers ln_wideHearer_high ln_wideHearer_high_numbers ln_wideHearer_x (0 : Int32) f_tape_row c_result_length f_result_row c_ln_kind c_ln_adpcmHearer_bits c_ln_adpcmHearer_se c_ln_adpcmHearer_sz c_ln_adpcmHearer_step f_ln_adpcmHearer_numbers c_ln_wideHearer_secondHeard f_ln_wideHearer_low_numbers f_ln_wideHearer_high_numbers f_ln_wideHearer_x) H locs) => ?_)
        refine lv_aload_n hx hb dX6_unpack_128 rfl (lv_at hl 0 rfl) ?_
        refine pq_get C hh i6 0 5 rfl rfl 2 (by decide) kf23 rfl rfl dX6_unpack_129 ?_
        refine pq_getN (host := "VoiceDesk") C hh i2 4 2 rfl rfl 1 (by decide) (List.mem_of_getElem? (i := 2) rfl) rfl rfl dX6_unpack_132 ?_
        obtain rfl := Option.some.inj hf
        exact hret _ _ _ ls hh dX6_unpack_135 rfl
      · have hf := pq_brf hf h11
        refine lv_aload_n hx hb dX6_unpack_70 rfl (lv_at hl 0 rfl) ?_
        refine pq_get C hh i6 0 5 rfl rfl 2 (by decide) kf23 rfl rfl dX6_unpack_71 ?_
        refine lv_aload hx hb dX6_unpack_74 (lv_at hl 3 rfl) ?_
        refine lv_aload_n hx hb dX6_unpack_76 rfl (lv_at hl 0 rfl) ?_
        refine pq_get C hh i6 0 5 rfl rfl 1 (by decide) kf19 rfl rfl dX6_unpack_77 ?_
        refine lv_iload hx hb dX6_unpack_80 (lv_at hl 5 rfl) ?_
        refine lv_iload hx hb dX6_unpack_82 (lv_at hl 4 rfl) ?_
        refine lv_iload_n hx hb dX6_unpack_84 rfl (lv_at hl 1 rfl) ?_
        obtain ⟨r12, hu13, hf⟩ := pq_clx hf
        refine pq_cvI (n := 3) (As := [.int x6, .int x5, .int x2]) C hh (qX2_codeAt l D cI cL th_tape th_tape_row c_tape_length f_tape_row x6 x5 x2 r12 hu13) (gvX2_codeAt hs (pq_m29 _ (List.mem_of_getElem? (i := 19) rfl))) rfl (by decide +kernel) ⟨Nat.le_of_ble_eq_true rfl, Nat.le_of_ble_eq_true rfl⟩ 2 2 rfl rfl rfl hl.1 rfl rfl (Nat.le_of_ble_eq_true rfl) dX6_unpack_85 ⟨Nat.zero_le _, Nat.zero_le _⟩ [2, 3] [0, 1, 4, 5, 6, 7, 8, 9, 10, 11, 12, 13, 14] [0, 1, 13, 14, 2, 3, 4, 5, 6, 7, 8, 9, 10, 11, 12] rfl rfl (by decide) (by decide) (by decide) rfl (fun H locs (hh : pq_H D A s (wX6_unpack_i cI cL La th th_lines th_tape th_tape_row th_result th_result_row ln ln_adpcmSpeaker ln_wideSpeaker ln_adpcmHearer ln_adpcmHearer_numbers ln_wideHearer ln_wideHearer_low ln_wideHearer_low_numbers ln_wideHearer_high ln_wideHearer_high_numbers ln_wideHearer_x c_tape_length f_tape_row c_result_length f_result_row c_ln_kind c_ln_adpcmHearer_bits c_ln_adpcmHearer_se c_ln_adpcmHearer_sz c_ln_adpcmHearer_step f_ln_adpcmHearer_numbers c_ln_wideHearer_secondHeard f_ln_wideHearer_low_numbers f_ln_wideHearer_high_numbers f_ln_wideHearer_x) H locs) => ?_)
        obtain ⟨⟨r14, c15, c16, c17, f18, c19, f20, f21, f22⟩, hu23, hf⟩ := pq_clx hf
        have hf := pq_nmx hf r14 rfl
        have hf := pq_nmx hf c15 rfl
        have hf := pq_nmx hf c16 rfl
        have hf := pq_nmx hf c17 rfl
        have hf := pq_nmx hf f18 rfl
        have hf := pq_nmx hf c19 rfl
        have hf := pq_nmx hf f20 rfl
        have hf := pq_nmx hf f21 rfl
        have hf := pq_nmx hf f22 rfl
        refine pq_cvI (n := 1) (As := [.int r12]) C hh (qX4_decode l D cI cL ln ln_adpcmSpeaker ln_wideSpeaker ln_adpcmHearer ln_adpcmHearer_numbers ln_wideHearer ln_wideHearer_low ln_wideHearer_low_numbers ln_wideHearer_high ln_wideHearer_high_numbers ln_wideHearer_x c_ln_kind c_ln_adpcmHearer_bits c_ln_adpcmHearer_se c_ln_adpcmHearer_sz c_ln_adpcmHearer_step f_ln_adpcmHearer_numbers c_ln_wideHearer_secondHeard f_ln_wideHearer_low_numbers f_ln_wideHearer_high_numbers f_ln_wideHearer_x r12 (r14, c15, c16, c17, f18, c19, f20, f21, f22) hu23) (gvX4_decode hs (pq_m21 _ (List.mem_of_getElem? (i := 9) rfl))) rfl (by decide +kernel) ⟨Nat.le_of_ble_eq_true rfl, Nat.le_of_ble_eq_true rfl⟩ 6 3 rfl rfl rfl hl.1 rfl rfl (Nat.le_of_ble_eq_true rfl) dX6_unpack_88 ⟨Nat.zero_le _, Nat.zero_le _⟩ [6, 7, 8, 9, 10, 11, 12, 13, 14] [0, 1, 2, 3, 4, 5] [0, 1, 2, 3, 4, 5, 6, 7, 8, 9, 10, 11, 12, 13, 14] rfl rfl (by decide) (by decide) (by decide) rfl (fun H locs (hh : pq_H D A s (wX6_unpack_i cI cL La th th_lines th_tape th_tape_row th_result th_result_row ln ln_adpcmSpeaker ln_wideSpeaker ln_adpcmHearer ln_adpcmHearer_numbers ln_wideHearer ln_wideHearer_low ln_wideHearer_low_numbers ln_wideHearer_high ln_wideHearer_high_numbers ln_wideHearer_x c_tape_length f_tape_row c_result_length f_result_row c_ln_kind c_ln_adpcmHearer_bits c15 c16 c17 f18 c19 f20 f21 f22) H locs) => ?_)
        obtain ⟨⟨c25, f26⟩, hu27, hf⟩ := pq_clx hf
        have hf := pq_nmx hf c25 rfl
        have hf := pq_nmx hf f26 rfl
        refine pq_cvV (n := 1) (As := [.int r14]) C hh (qX2_addSample l D cI cL th_result th_result_row c_result_length f_result_row r14 (c25, f26) hu27) (gvX2_addSample hs (pq_m29 _ (List.mem_of_getElem? (i := 23) rfl))) rfl (by decide +kernel) ⟨Nat.le_of_ble_eq_true rfl, Nat.le_of_ble_eq_true rfl⟩ 4 2 rfl rfl rfl hl.1 rfl rfl (Nat.le_of_ble_eq_true rfl) dX6_unpack_91 ⟨Nat.zero_le _, Nat.zero_le _⟩ [4, 5] [0, 1, 2, 3, 6, 7, 8, 9, 10, 11, 12, 13, 14] [0, 1, 2, 3, 13, 14, 4, 5, 6, 7, 8, 9, 10, 11, 12] rfl rfl (by decide) (by decide) (by decide) rfl (fun H locs (hh : pq_H D A s (wX6_unpack_i cI cL La th th_lines th_tape th_tape_row th_result th_result_row ln ln_adpcmSpeaker ln_wideSpeaker ln_adpcmHearer ln_adpcmHearer_numbers ln_wideHearer ln_wideHearer_low ln_wideHearer_low_numbers ln_wideHearer_high ln_wideHearer_high_numbers ln_wideHearer_x c_tape_length f_tape_row c25 f26 c_ln_kind c_ln_adpcmHearer_bits c15 c16 c17 f18 c19 f20 f21 f22) H locs) => ?_)
        refine lv_aload hx hb dX6_unpack_94 (lv_at hl 3 rfl) ?_
        obtain ⟨r29, hu30, hf⟩ := pq_clx hf
        refine pq_cvI (n := 0) (As := []) C hh (qX4_isWide l D cI cL ln ln_adpcmSpeaker ln_adpcmHearer ln_wideSpeaker ln_wideHearer c_ln_kind r29 hu30) (gvX4_isWide hs (pq_m7 _ (List.mem_of_getElem? (i := 16) rfl))) rfl (by decide +kernel) ⟨Nat.le_of_ble_eq_true rfl, Nat.le_of_ble_eq_true rfl⟩ 6 3 rfl rfl rfl hl.1 rfl rfl (Nat.le_of_ble_eq_true rfl) dX6_unpack_96 ⟨Nat.zero_le _, Nat.zero_le _⟩ [6] [0, 1, 2, 3, 4, 5, 7, 8, 9, 10, 11, 12, 13, 14] [0, 1, 2, 3, 4, 5, 14, 6, 7, 8, 9, 10, 11, 12, 13] rfl rfl (by decide) (by decide) (by decide) rfl (fun H locs (hh : pq_H D A s (wX6_unpack_i cI cL La th th_lines th_tape th_tape_row th_result th_result_row ln ln_adpcmSpeaker ln_wideSpeaker ln_adpcmHearer ln_adpcmHearer_numbers ln_wideHearer ln_wideHearer_low ln_wideHearer_low_numbers ln_wideHearer_high ln_wideHearer_high_numbers ln_wideHearer_x c_tape_length f_tape_row c25 f26 c_ln_kind c_ln_adpcmHearer_bits c15 c16 c17 f18 c19 f20 f21 f22) H locs) => ?_)
        refine lv_if_eq (tgt := 114) hx hb dX6_unpack_99 (by decide) (fun h31 => ?_) (fun h31 => ?_)
        · have hf := pq_brt hf h31
          exact J114 x2 x3 x5 x6 c_tape_length c25 f26 c15 c16 c17 f18 c19 f20 f21 f22 _ _ hh ls (lv_sub hl [0, 1, 2, 3, 4, 5] rfl) hf
        · have hf := pq_brf hf h31
          refine lv_aload_n hx hb dX6_unpack_102 rfl (lv_at hl 0 rfl) ?_
          refine pq_get C hh i6 0 5 rfl rfl 2 (by decide) kf23 rfl rfl dX6_unpack_103 ?_
          refine lv_aload hx hb dX6_unpack_106 (lv_at hl 3 rfl) ?_
          obtain ⟨r32, hu33, hf⟩ := pq_clx hf
          refine pq_cvI (n := 0) (As := []) C hh (qX4_secondHeard l D cI cL ln ln_adpcmSpeaker ln_adpcmHearer ln_wideSpeaker ln_wideHearer ln_wideHearer_low ln_wideHearer_high ln_wideHearer_x c_ln_kind c19 r32 hu33) (gvX4_secondHeard hs (pq_m24 _ (List.mem_of_getElem? (i := 4) rfl))) rfl (by decide +kernel) ⟨Nat.le_of_ble_eq_true rfl, Nat.le_of_ble_eq_true rfl⟩ 6 3 rfl rfl rfl hl.1 rfl rfl (Nat.le_of_ble_eq_true rfl) dX6_unpack_108 ⟨Nat.zero_le _, Nat.zero_le _⟩ [6, 9] [0, 1, 2, 3, 4, 5, 7, 8, 10, 11, 12, 13, 14] [0, 1, 2, 3, 4, 5, 13, 6, 7, 14, 8, 9, 10, 11, 12] rfl rfl (by decide) (by decide) (by decide) rfl (fun H locs (hh : pq_H D A s (wX6_unpack_i cI cL La th th_lines th_tape th_tape_row th_result th_result_row ln ln_adpcmSpeaker ln_wideSpeaker ln_adpcmHearer ln_adpcmHearer_numbers ln_wideHearer ln_wideHearer_low ln_wideHearer_low_numbers ln_wideHearer_high ln_wideHearer_high_numbers ln_wideHearer_x c_tape_length f_tape_row c25 f26 c_ln_kind c_ln_adpcmHearer_bits c15 c16 c17 f18 c19 f20 f21 f22) H locs) => ?_)
          obtain ⟨⟨c34, f35⟩, hu36, hf⟩ := pq_clx hf
          have hf := pq_nmx hf c34 rfl
          have hf := pq_nmx hf f35 rfl
          refine pq_cvV (n := 1) (As := [.int r32]) C hh (qX2_addSample l D cI cL th_result th_result_row c25 f26 r32 (c34, f35) hu36) (gvX2_addSample hs (pq_m29 _ (List.mem_of_getElem? (i := 23) rfl))) rfl (by decide +kernel) ⟨Nat.le_of_ble_eq_true rfl, Nat.le_of_ble_eq_true rfl⟩ 4 2 rfl rfl rfl hl.1 rfl rfl (Nat.le_of_ble_eq_true rfl) dX6_unpack_111 ⟨Nat.zero_le _, Nat.zero_le _⟩ [4, 5] [0, 1, 2, 3, 6, 7, 8, 9, 10, 11, 12, 13, 14] [0, 1, 2, 3, 13, 14, 4, 5, 6, 7, 8, 9, 10, 11, 12] rfl rfl (by decide) (by decide) (by decide) rfl (fun H locs (hh : pq_H D A s (wX6_unpack_i cI cL La th th_lines th_tape th_tape_row th_result th_result_row ln ln_adpcmSpeaker ln_wideSpeaker ln_adpcmHearer ln_adpcmHearer_numbers ln_wideHearer ln_wideHearer_low ln_wideHearer_low_numbers ln_wideHearer_high ln_wideHearer_high_numbers ln_wideHearer_x c_tape_length f_tape_row c34 f35 c_ln_kind c_ln_adpcmHearer_bits c15 c16 c17 f18 c19 f20 f21 f22) H locs) => ?_)
          exact J114 x2 x3 x5 x6 c_tape_length c34 f35 c15 c16 c17 f18 c19 f20 f21 f22 _ _ hh ls (lv_sub hl [0, 1, 2, 3, 4, 5] rfl) hf
  rw [fX6_unpack_i] at hf
  refine lv_aload_n hx hb dX6_unpack_0 rfl (lv_at hl 0 rfl) ?_
  refine lv_iload_n hx hb dX6_unpack_1 rfl (lv_at hl 1 rfl) ?_
  obtain ⟨r1, hu2, hf⟩ := pq_clx hf
  refine pq_cvQ (n := 1) (As := [.int a1]) C hh (qX6_openLine_i l D cI cL La th th_tape th_result th_lines ln ln_adpcmSpeaker ln_adpcmHearer ln_wideSpeaker ln_wideHearer c_ln_kind a1 hLa1 r1 hu2) (gvX6_openLine hs (pq_m7 _ (List.mem_of_getElem? (i := 4) rfl))) rfl (by decide +kernel) ⟨Nat.le_of_ble_eq_true rfl, Nat.le_of_ble_eq_true rfl⟩ 0 5 rfl rfl rfl hl.1 rfl rfl (Nat.le_of_ble_eq_true rfl) dX6_unpack_2 ⟨Nat.zero_le _, Nat.zero_le _⟩ [0, 1, 6] [2, 3, 4, 5, 7, 8, 9, 10, 11, 12, 13, 14] [12, 13, 0, 1, 2, 3, 14, 4, 5, 6, 7, 8, 9, 10, 11] rfl rfl (by decide) (by decide) (by decide) rfl (fun H locs (hh : pq_H D A s (wX6_unpack_i cI cL La th th_lines th_tape th_tape_row th_result th_result_row ln ln_adpcmSpeaker ln_wideSpeaker ln_adpcmHearer ln_adpcmHearer_numbers ln_wideHearer ln_wideHearer_low ln_wideHearer_low_numbers ln_wideHearer_high ln_wideHearer_high_numbers ln_wideHearer_x c_tape_length f_tape_row c_result_length f_result_row c_ln_kind c_ln_adpcmHearer_bits c_ln_adpcmHearer_se c_ln_adpcmHearer_sz c_ln_adpcmHearer_step f_ln_adpcmHearer_numbers c_ln_wideHearer_secondHeard f_ln_wideHearer_low_numbers f_ln_wideHearer_high_numbers f_ln_wideHearer_x) H locs) => ?_)
  by_cases h3 : r1 = 0
  · have hf := pq_brt hf h3
    rw [if_pos h3]
    refine W.eq (g2 := F0 m 5 ls [.null]) rfl ?_
    refine lv_astoreN (lv' := [(4, .null), (0, .ref th), (1, .int a1), (2, .int a2), (3, .int a3)]) hx hb dX6_unpack_5 hl (by decide) rfl (fun ls hl => ?_)
    refine lv_aloadN hx hb dX6_unpack_7 (lv_at hl 0 rfl) ?_
    refine lv_ifnullN (tgt := 23) hx hb dX6_unpack_9 (by decide) ?_
    refine lv_ldc (v := (-100000 : Int32)) hx hb hown kc34 dX6_unpack_23 ?_
    obtain rfl := Option.some.inj hf
    exact hret _ _ _ ls hh dX6_unpack_25 rfl
  · have hf := pq_brf hf h3
    rw [if_neg h3]
    refine W.eq (g2 := F0 m 5 ls [.ref ln]) rfl ?_
    refine lv_astore (lv' := [(4, .ref ln), (0, .ref th), (1, .int a1), (2, .int a2), (3, .int a3)]) hx hb dX6_unpack_5 hl (by decide) rfl (fun ls hl => ?_)
    refine lv_aload hx hb dX6_unpack_7 (lv_at hl 0 rfl) ?_
    refine lv_ifnull hx hb dX6_unpack_9 ?_
    refine lv_iload_n hx hb dX6_unpack_12 rfl (lv_at hl 4 rfl) ?_
    refine lv_if_lt (tgt := 23) hx hb dX6_unpack_13 (by decide) (fun h4 => ?_) (fun h4 => ?_)
    · have hf := pq_brt hf h4
      refine lv_ldc (v := (-100000 : Int32)) hx hb hown kc34 dX6_unpack_23 ?_
      obtain rfl := Option.some.inj hf
      exact hret _ _ _ ls hh dX6_unpack_25 rfl
    · have hf := pq_brf hf h4
      refine lv_iload_n hx hb dX6_unpack_16 rfl (lv_at hl 4 rfl) ?_
      refine lv_sipush (v := (250 : Int32)) hx hb dX6_unpack_17 (by decide) ?_
      refine lv_icmp_le (tgt := 26) hx hb dX6_unpack_20 (by decide) (fun h5 => ?_) (fun h5 => ?_)
      · have hf := pq_brt hf h5
        refine lv_aload hx hb dX6_unpack_26 (lv_at hl 0 rfl) ?_
        obtain ⟨r6, hu7, hf⟩ := pq_clx hf
        refine pq_cvI (n := 0) (As := []) C hh (qX4_codeBits l D cI cL ln ln_adpcmSpeaker ln_adpcmHearer ln_wideSpeaker ln_wideHearer c_ln_kind r6 hu7) (gvX4_codeBits hs (pq_m28 _ (List.mem_of_getElem? (i := 2) rfl))) rfl (by decide +kernel) ⟨Nat.le_of_ble_eq_true rfl, Nat.le_of_ble_eq_true rfl⟩ 6 3 rfl rfl rfl hl.1 rfl rfl (Nat.le_of_ble_eq_true rfl) dX6_unpack_28 ⟨Nat.zero_le _, Nat.zero_le _⟩ [6] [0, 1, 2, 3, 4, 5, 7, 8, 9, 10, 11, 12, 13, 14] [0, 1, 2, 3, 4, 5, 14, 6, 7, 8, 9, 10, 11, 12, 13] rfl rfl (by decide) (by decide) (by decide) rfl (fun H locs (hh : pq_H D A s (wX6_unpack_i cI cL La th th_lines th_tape th_tape_row th_result th_result_row ln ln_adpcmSpeaker ln_wideSpeaker ln_adpcmHearer ln_adpcmHearer_numbers ln_wideHearer ln_wideHearer_low ln_wideHearer_low_numbers ln_wideHearer_high ln_wideHearer_high_numbers ln_wideHearer_x c_tape_length f_tape_row c_result_length f_result_row c_ln_kind c_ln_adpcmHearer_bits c_ln_adpcmHearer_se c_ln_adpcmHearer_sz c_ln_adpcmHearer_step f_ln_adpcmHearer_numbers c_ln_wideHearer_secondHeard f_ln_wideHearer_low_numbers f_ln_wideHearer_high_numbers f_ln_wideHearer_x) H locs) => ?_)
        refine lv_istore (lv' := [(5, .int r6), (4, .ref ln), (0, .ref th), (1, .int a1), (2, .int a2), (3, .int a3)]) hx hb dX6_unpack_31 hl (by decide) rfl (fun ls hl => ?_)
        refine lv_aload_n hx hb dX6_unpack_33 rfl (lv_at hl 2 rfl) ?_
        refine pq_get C hh i6 0 5 rfl rfl 1 (by decide) kf19 rfl rfl dX6_unpack_34 ?_
        refine pq_getN (host := "VoiceDesk") C hh i2 2 2 rfl rfl 1 (by decide) (List.mem_of_getElem? (i := 2) rfl) rfl rfl dX6_unpack_37 ?_
        refine lv_iload_n hx hb dX6_unpack_40 rfl (lv_at hl 5 rfl) ?_
        refine lv_iload hx hb dX6_unpack_41 (lv_at hl 0 rfl) ?_
        refine lv_imul hx hb dX6_unpack_43 ?_
        obtain ⟨r8, hu9, hf⟩ := pq_clx hf
        refine pq_csI (n := 1) (As := [.int (a3 * r6)]) C hh (qX2_needed l D cI cL (a3 * r6) r8 hu9) (gsX2_needed hs (pq_m29 _ (List.mem_of_getElem? (i := 18) rfl))) rfl (by decide +kernel) ⟨Nat.le_of_ble_eq_true rfl, Nat.le_of_ble_eq_true rfl⟩ hl.1 rfl rfl (Nat.le_of_ble_eq_true rfl) dX6_unpack_44 ⟨Nat.zero_le _, Nat.zero_le _⟩ [] [0, 1, 2, 3, 4, 5, 6, 7, 8, 9, 10, 11, 12, 13, 14] [0, 1, 2, 3, 4, 5, 6, 7, 8, 9, 10, 11, 12, 13, 14] rfl rfl (by decide) (by decide) (by decide) rfl (fun H locs (hh : pq_H D A s (wX6_unpack_i cI cL La th th_lines th_tape th_tape_row th_result th_result_row ln ln_adpcmSpeaker ln_wideSpeaker ln_adpcmHearer ln_adpcmHearer_numbers ln_wideHearer ln_wideHearer_low ln_wideHearer_low_numbers ln_wideHearer_high ln_wideHearer_high_numbers ln_wideHearer_x c_tape_length f_tape_row c_result_length f_result_row c_ln_kind c_ln_adpcmHearer_bits c_ln_adpcmHearer_se c_ln_adpcmHearer_sz c_ln_adpcmHearer_step f_ln_adpcmHearer_numbers c_ln_wideHearer_secondHeard f_ln_wideHearer_low_numbers f_ln_wideHearer_high_numbers f_ln_wideHearer_x) H locs) => ?_)
        refine lv_icmp_eq (tgt := 53) hx hb dX6_unpack_47 (by decide) (fun h10 => ?_) (fun h10 => ?_)
        · have hf := pq_brt hf h10
          refine lv_aload_n hx hb dX6_unpack_53 rfl (lv_at hl 2 rfl) ?_
          refine pq_get C hh i6 0 5 rfl rfl 2 (by decide) kf23 rfl rfl dX6_unpack_54 ?_
          refine lv_iconst (v := (0 : Int32)) hx hb dX6_unpack_57 (by decide) ?_
          refine pq_putN (ty := .int) (v := .int (0 : Int32)) (host := "VoiceDesk") C hh i2 tyX2 tyX2_ok nmX2 4 2 rfl rfl 1 (by decide) (List.mem_of_getElem? (i := 2) rfl) rfl rfl (by decide +kernel) rfl rfl (Nat.le_of_ble_eq_true rfl) dX6_unpack_58 (fun H locs (hh : pq_H D A s (wX6_unpack_i cI cL La th th_lines th_tape th_tape_row th_result th_result_row ln ln_adpcmSpeaker ln_wideSpeaker ln_adpcmHearer ln_adpcmHearer_numbers ln_wideHearer ln_wideHearer_low ln_wideHearer_low_numbers ln_wideHearer_high ln_wideHearer_high_numbers ln_wideHearer_x c_tape_length f_tape_row (0 : Int32) f_result_row c_ln_kind c_ln_adpcmHearer_bits c_ln_adpcmHearer_se c_ln_adpcmHearer_sz c_ln_adpcmHearer_step f_ln_adpcmHearer_numbers c_ln_wideHearer_secondHeard f_ln_wideHearer_low_numbers f_ln_wideHearer_high_numbers f_ln_wideHearer_x) H locs) => ?_)
          refine lv_iconst (v := (0 : Int32)) hx hb dX6_unpack_61 (by decide) ?_
          refine lv_istore (lv' := [(6, .int (0 : Int32)), (5, .int r6), (4, .ref ln), (0, .ref th), (1, .int a1), (2, .int a2), (3, .int a3)]) hx hb dX6_unpack_62 hl (by decide) rfl (fun ls hl => ?_)
          exact J64 1100 a2 a3 r6 (0 : Int32) c_tape_length (0 : Int32) f_result_row c_ln_adpcmHearer_se c_ln_adpcmHearer_sz c_ln_adpcmHearer_step f_ln_adpcmHearer_numbers c_ln_wideHearer_secondHeard f_ln_wideHearer_low_numbers f_ln_wideHearer_high_numbers f_ln_wideHearer_x _ _ hh ls (lv_sub hl [3, 5, 6, 2, 1, 0] rfl) hf
        · have hf := pq_brf hf h10
          refine lv_ldc (v := (-100000 : Int32)) hx hb hown kc34 dX6_unpack_50 ?_
          obtain rfl := Option.some.inj hf
          exact hret _ _ _ ls hh dX6_unpack_52 rfl
      · have hf := pq_brf hf h5
        refine lv_ldc (v := (-100000 : Int32)) hx hb hown kc34 dX6_unpack_23 ?_
        obtain rfl := Option.some.inj hf
        exact hret _ _ _ ls hh dX6_unpack_25 rfl
set_option maxHeartbeats 4000000 in
set_option maxRecDepth 100000 in
theorem qX6_pass_oo (l : Launch) (D : va_G) (cI cL : ClassId) (th : Nat) (th_lines : Nat) (th_tape : Nat) (th_result : Nat) (a1 : Int32) (a2 : Int32) (a3 : Int32) (res : Int32) (hf : fX6_pass_oo a1 a2 a3 = some res) : pq_CI l yX6_pass qsX6_pass 6 149 D cI cL [.ref th, .int a1, .int a2, .int a3] (wX6_pass_oo cI th th_lines th_tape th_result) (wX6_pass_oo cI th th_lines th_tape th_result) res := by
  refine pq_mkI (cc := cX6_pass) (maxL := 7) (RT := .int) (by decide) rfl (Nat.le_of_ble_eq_true rfl) ?_
  intro p e s m args below meth c Q A C hh hret ls hl
  have hx := C.1
  have hb := C.2.1
  have hml := C.2.2.1
  have hown : s.vm.findClass RX6 = some m.cls := C.2.2.2.1
  have hs : ∀ w ∈ wsL_law, w ∈ qsX6_pass := fun _ h => List.mem_cons_of_mem _ h
  have htw : ∀ w ∈ wsL_law, w.before args s = true := fun w h => C.2.2.2.2.1 w (hs w h)
  have hl : lv_has ls 7 [(0, .ref th), (1, .int a1), (2, .int a2), (3, .int a3)] := hl
  have kc34 := htw (.constant RX6 34 (-100000)) (pq_m7 _ (List.mem_of_getElem? (i := 3) rfl))
  rw [fX6_pass_oo] at hf
  refine lv_aload_n hx hb dX6_pass_0 rfl (lv_at hl 0 rfl) ?_
  refine lv_iload_n hx hb dX6_pass_1 rfl (lv_at hl 1 rfl) ?_
  obtain ⟨u2, hu1, hf⟩ := pq_clx hf
  refine pq_cvQ (n := 1) (As := [.int a1]) C hh (qX6_openLine_o l D cI cL th th_lines th_tape th_result a1 u2 hu1) (gvX6_openLine hs (pq_m7 _ (List.mem_of_getElem? (i := 4) rfl))) rfl (by decide +kernel) ⟨Nat.le_of_ble_eq_true rfl, Nat.le_of_ble_eq_true rfl⟩ 0 5 rfl rfl rfl hl.1 rfl rfl (Nat.le_of_ble_eq_true rfl) dX6_pass_2 ⟨Nat.zero_le _, Nat.zero_le _⟩ [0] [] [0] rfl rfl (by decide) (by decide) (by decide) rfl (fun H locs (hh : pq_H D A s (wX6_pass_oo cI th th_lines th_tape th_result) H locs) => ?_)
  refine lv_astoreN (lv' := [(4, .null), (0, .ref th), (1, .int a1), (2, .int a2), (3, .int a3)]) hx hb dX6_pass_5 hl (by decide) rfl (fun ls hl => ?_)
  refine lv_aload_n hx hb dX6_pass_7 rfl (lv_at hl 1 rfl) ?_
  refine lv_iload_n hx hb dX6_pass_8 rfl (lv_at hl 3 rfl) ?_
  obtain ⟨u4, hu3, hf⟩ := pq_clx hf
  refine pq_cvQ (n := 1) (As := [.int a2]) C hh (qX6_openLine_o l D cI cL th th_lines th_tape th_result a2 u4 hu3) (gvX6_openLine hs (pq_m7 _ (List.mem_of_getElem? (i := 4) rfl))) rfl (by decide +kernel) ⟨Nat.le_of_ble_eq_true rfl, Nat.le_of_ble_eq_true rfl⟩ 0 5 rfl rfl rfl hl.1 rfl rfl (Nat.le_of_ble_eq_true rfl) dX6_pass_9 ⟨Nat.zero_le _, Nat.zero_le _⟩ [0] [] [0] rfl rfl (by decide) (by decide) (by decide) rfl (fun H locs (hh : pq_H D A s (wX6_pass_oo cI th th_lines th_tape th_result) H locs) => ?_)
  refine lv_astoreN (lv' := [(5, .null), (4, .null), (0, .ref th), (1, .int a1), (2, .int a2), (3, .int a3)]) hx hb dX6_pass_12 hl (by decide) rfl (fun ls hl => ?_)
  refine lv_aloadN hx hb dX6_pass_14 (lv_at hl 1 rfl) ?_
  refine lv_ifnullN (tgt := 46) hx hb dX6_pass_16 (by decide) ?_
  refine lv_ldc (v := (-100000 : Int32)) hx hb hown kc34 dX6_pass_46 ?_
  obtain rfl := Option.some.inj hf
  exact hret _ _ _ ls hh dX6_pass_48 rfl
set_option maxHeartbeats 4000000 in
set_option maxRecDepth 100000 in
theorem qX6_pass_oi (l : Launch) (D : va_G) (cI cL : ClassId) (La : Nat → Nat) (th : Nat) (th_tape : Nat) (th_result : Nat) (th_lines : Nat) (lm : Nat) (lm_adpcmSpeaker : Nat) (lm_adpcmHearer : Nat) (lm_wideSpeaker : Nat) (lm_wideHearer : Nat) (c_lm_kind : Int32) (a1 : Int32) (a2 : Int32) (a3 : Int32) (hLa2 : La a2.toNatClampNeg = lm) (res : Int32) (hf : fX6_pass_oi a1 a2 a3 c_lm_kind = some res) : pq_CI l yX6_pass qsX6_pass 6 149 D cI cL [.ref th, .int a1, .int a2, .int a3] (wX6_pass_oi cI cL La th th_tape th_result th_lines lm lm_adpcmSpeaker lm_adpcmHearer lm_wideSpeaker lm_wideHearer c_lm_kind) (wX6_pass_oi cI cL La th th_tape th_result th_lines lm lm_adpcmSpeaker lm_adpcmHearer lm_wideSpeaker lm_wideHearer c_lm_kind) res := by
  refine pq_mkI (cc := cX6_pass) (maxL := 7) (RT := .int) (by decide) rfl (Nat.le_of_ble_eq_true rfl) ?_
  intro p e s m args below meth c Q A C hh hret ls hl
  have hx := C.1
  have hb := C.2.1
  have hml := C.2.2.1
  have hown : s.vm.findClass RX6 = some m.cls := C.2.2.2.1
  have hs : ∀ w ∈ wsL_law, w ∈ qsX6_pass := fun _ h => List.mem_cons_of_mem _ h
  have htw : ∀ w ∈ wsL_law, w.before args s = true := fun w h => C.2.2.2.2.1 w (hs w h)
  have hl : lv_has ls 7 [(0, .ref th), (1, .int a1), (2, .int a2), (3, .int a3)] := hl
  have kc34 := htw (.constant RX6 34 (-100000)) (pq_m7 _ (List.mem_of_getElem? (i := 3) rfl))
  rw [fX6_pass_oi] at hf
  refine lv_aload_n hx hb dX6_pass_0 rfl (lv_at hl 0 rfl) ?_
  refine lv_iload_n hx hb dX6_pass_1 rfl (lv_at hl 1 rfl) ?_
  obtain ⟨u2, hu1, hf⟩ := pq_clx hf
  refine pq_cvQ (n := 1) (As := [.int a1]) C hh (qX6_openLine_o l D cI cL th th_lines th_tape th_result a1 u2 hu1) (gvX6_openLine hs (pq_m7 _ (List.mem_of_getElem? (i := 4) rfl))) rfl (by decide +kernel) ⟨Nat.le_of_ble_eq_true rfl, Nat.le_of_ble_eq_true rfl⟩ 0 5 rfl rfl rfl hl.1 rfl rfl (Nat.le_of_ble_eq_true rfl) dX6_pass_2 ⟨Nat.zero_le _, Nat.zero_le _⟩ [0] [1, 2] [2, 0, 1] rfl rfl (by decide) (by decide) (by decide) rfl (fun H locs (hh : pq_H D A s (wX6_pass_oi cI cL La th th_tape th_result th_lines lm lm_adpcmSpeaker lm_adpcmHearer lm_wideSpeaker lm_wideHearer c_lm_kind) H locs) => ?_)
  refine lv_astoreN (lv' := [(4, .null), (0, .ref th), (1, .int a1), (2, .int a2), (3, .int a3)]) hx hb dX6_pass_5 hl (by decide) rfl (fun ls hl => ?_)
  refine lv_aload_n hx hb dX6_pass_7 rfl (lv_at hl 1 rfl) ?_
  refine lv_iload_n hx hb dX6_pass_8 rfl (lv_at hl 3 rfl) ?_
  obtain ⟨r3, hu4, hf⟩ := pq_clx hf
  refine pq_cvQ (n := 1) (As := [.int a2]) C hh (qX6_openLine_i l D cI cL La th th_tape th_result th_lines lm lm_adpcmSpeaker lm_adpcmHearer lm_wideSpeaker lm_wideHearer c_lm_kind a2 hLa2 r3 hu4) (gvX6_openLine hs (pq_m7 _ (List.mem_of_getElem? (i := 4) rfl))) rfl (by decide +kernel) ⟨Nat.le_of_ble_eq_true rfl, Nat.le_of_ble_eq_true rfl⟩ 0 5 rfl rfl rfl hl.1 rfl rfl (Nat.le_of_ble_eq_true rfl) dX6_pass_9 ⟨Nat.zero_le _, Nat.zero_le _⟩ [0, 1, 2] [] [0, 1, 2] rfl rfl (by decide) (by decide) (by decide) rfl (fun H locs (hh : pq_H D A s (wX6_pass_oi cI cL La th th_tape th_result th_lines lm lm_adpcmSpeaker lm_adpcmHearer lm_wideSpeaker lm_wideHearer c_lm_kind) H locs) => ?_)
  by_cases h5 : r3 = 0
  · have hf := pq_brt hf h5
    rw [if_pos h5]
    refine W.eq (g2 := F0 m 12 ls [.null]) rfl ?_
    refine lv_astoreN (lv' := [(5, .null), (4, .null), (0, .ref th), (1, .int a1), (2, .int a2), (3, .int a3)]) hx hb dX6_pass_12 hl (by decide) rfl (fun ls hl => ?_)
    refine lv_aloadN hx hb dX6_pass_14 (lv_at hl 1 rfl) ?_
    refine lv_ifnullN (tgt := 46) hx hb dX6_pass_16 (by decide) ?_
    refine lv_ldc (v := (-100000 : Int32)) hx hb hown kc34 dX6_pass_46 ?_
    obtain rfl := Option.some.inj hf
    exact hret _ _ _ ls hh dX6_pass_48 rfl
  · have hf := pq_brf hf h5
    rw [if_neg h5]
    refine W.eq (g2 := F0 m 12 ls [.ref lm]) rfl ?_
    refine lv_astore (lv' := [(5, .ref lm), (4, .null), (0, .ref th), (1, .int a1), (2, .int a2), (3, .int a3)]) hx hb dX6_pass_12 hl (by decide) rfl (fun ls hl => ?_)
    refine lv_aloadN hx hb dX6_pass_14 (lv_at hl 1 rfl) ?_
    refine lv_ifnullN (tgt := 46) hx hb dX6_pass_16 (by decide) ?_
    refine lv_ldc (v := (-100000 : Int32)) hx hb hown kc34 dX6_pass_46 ?_
    obtain rfl := Option.some.inj hf
    exact hret _ _ _ ls hh dX6_pass_48 rfl
set_option maxHeartbeats 4000000 in
set_option maxRecDepth 100000 in
theorem qX6_pass_io (l : Launch) (D : va_G) (cI cL : ClassId) (La : Nat → Nat) (th : Nat) (th_tape : Nat) (th_result : Nat) (th_lines : Nat) (ln : Nat) (ln_adpcmSpeaker : Nat) (ln_adpcmHearer : Nat) (ln_wideSpeaker : Nat) (ln_wideHearer : Nat) (c_ln_kind : Int32) (a1 : Int32) (a2 : Int32) (a3 : Int32) (hLa1 : La a1.toNatClampNeg = ln) (res : Int32) (hf : fX6_pass_io a1 a2 a3 c_ln_kind = some res) : pq_CI l yX6_pass qsX6_pass 6 149 D cI cL [.ref th, .int a1, .int a2, .int a3] (wX6_pass_io cI cL La th th_tape th_result th_lines ln ln_adpcmSpeaker ln_adpcmHearer ln_wideSpeaker ln_wideHearer c_ln_kind) (wX6_pass_io cI cL La th th_tape th_result th_lines ln ln_adpcmSpeaker ln_adpcmHearer ln_wideSpeaker ln_wideHearer c_ln_kind) res := by
  refine pq_mkI (cc := cX6_pass) (maxL := 7) (RT := .int) (by decide) rfl (Nat.le_of_ble_eq_true rfl) ?_
  intro p e s m args below meth c Q A C hh hret ls hl
  have hx := C.1
  have hb := C.2.1
  have hml := C.2.2.1
  have hown : s.vm.findClass RX6 = some m.cls := C.2.2.2.1
  have hs : ∀ w ∈ wsL_law, w ∈ qsX6_pass := fun _ h => List.mem_cons_of_mem _ h
  have htw : ∀ w ∈ wsL_law, w.before args s = true := fun w h => C.2.2.2.2.1 w (hs w h)
  have hl : lv_has ls 7 [(0, .ref th), (1, .int a1), (2, .int a2), (3, .int a3)] := hl
  have kc34 := htw (.constant RX6 34 (-100000)) (pq_m7 _ (List.mem_of_getElem? (i := 3) rfl))
  rw [fX6_pass_io] at hf
  refine lv_aload_n hx hb dX6_pass_0 rfl (lv_at hl 0 rfl) ?_
  refine lv_iload_n hx hb dX6_pass_1 rfl (lv_at hl 1 rfl) ?_
  obtain ⟨r1, hu2, hf⟩ := pq_clx hf
  refine pq_cvQ (n := 1) (As := [.int a1]) C hh (qX6_openLine_i l D cI cL La th th_tape th_result th_lines ln ln_adpcmSpeaker ln_adpcmHearer ln_wideSpeaker ln_wideHearer c_ln_kind a1 hLa1 r1 hu2) (gvX6_openLine hs (pq_m7 _ (List.mem_of_getElem? (i := 4) rfl))) rfl (by decide +kernel) ⟨Nat.le_of_ble_eq_true rfl, Nat.le_of_ble_eq_true rfl⟩ 0 5 rfl rfl rfl hl.1 rfl rfl (Nat.le_of_ble_eq_true rfl) dX6_pass_2 ⟨Nat.zero_le _, Nat.zero_le _⟩ [0, 1, 2] [] [0, 1, 2] rfl rfl (by decide) (by decide) (by decide) rfl (fun H locs (hh : pq_H D A s (wX6_pass_io cI cL La th th_tape th_result th_lines ln ln_adpcmSpeaker ln_adpcmHearer ln_wideSpeaker ln_wideHearer c_ln_kind) H locs) => ?_)
  by_cases h3 : r1 = 0
  · have hf := pq_brt hf h3
    rw [if_pos h3]
    refine W.eq (g2 := F0 m 5 ls [.null]) rfl ?_
    refine lv_astoreN (lv' := [(4, .null), (0, .ref th), (1, .int a1), (2, .int a2), (3, .int a3)]) hx hb dX6_pass_5 hl (by decide) rfl (fun ls hl => ?_)
    refine lv_aload_n hx hb dX6_pass_7 rfl (lv_at hl 1 rfl) ?_
    refine lv_iload_n hx hb dX6_pass_8 rfl (lv_at hl 3 rfl) ?_
    obtain ⟨u5, hu4, hf⟩ := pq_clx hf
    refine pq_cvQ (n := 1) (As := [.int a2]) C hh (qX6_openLine_o l D cI cL th th_lines th_tape th_result a2 u5 hu4) (gvX6_openLine hs (pq_m7 _ (List.mem_of_getElem? (i := 4) rfl))) rfl (by decide +kernel) ⟨Nat.le_of_ble_eq_true rfl, Nat.le_of_ble_eq_true rfl⟩ 0 5 rfl rfl rfl hl.1 rfl rfl (Nat.le_of_ble_eq_true rfl) dX6_pass_9 ⟨Nat.zero_le _, Nat.zero_le _⟩ [0] [1, 2] [2, 0, 1] rfl rfl (by decide) (by decide) (by decide) rfl (fun H locs (hh : pq_H D A s (wX6_pass_io cI cL La th th_tape th_result th_lines ln ln_adpcmSpeaker ln_adpcmHearer ln_wideSpeaker ln_wideHearer c_ln_kind) H locs) => ?_)
    refine lv_astoreN (lv' := [(5, .null), (4, .null), (0, .ref th), (1, .int a1), (2, .int a2), (3, .int a3)]) hx hb dX6_pass_12 hl (by decide) rfl (fun ls hl => ?_)
    refine lv_aloadN hx hb dX6_pass_14 (lv_at hl 1 rfl) ?_
    refine lv_ifnullN (tgt := 46) hx hb dX6_pass_16 (by decide) ?_
    refine lv_ldc (v := (-100000 : Int32)) hx hb hown kc34 dX6_pass_46 ?_
    obtain rfl := Option.some.inj hf
    exact hret _ _ _ ls hh dX6_pass_48 rfl
  · have hf := pq_brf hf h3
    rw [if_neg h3]
    refine W.eq (g2 := F0 m 5 ls [.ref ln]) rfl ?_
    refine lv_astore (lv' := [(4, .ref ln), (0, .ref th), (1, .int a1), (2, .int a2), (3, .int a3)]) hx hb dX6_pass_5 hl (by decide) rfl (fun ls hl => ?_)
    refine lv_aload_n hx hb dX6_pass_7 rfl (lv_at hl 1 rfl) ?_
    refine lv_iload_n hx hb dX6_pass_8 rfl (lv_at hl 3 rfl) ?_
    obtain ⟨u7, hu6, hf⟩ := pq_clx hf
    refine pq_cvQ (n := 1) (As := [.int a2]) C hh (qX6_openLine_o l D cI cL th th_lines th_tape th_result a2 u7 hu6) (gvX6_openLine hs (pq_m7 _ (List.mem_of_getElem? (i := 4) rfl))) rfl (by decide +kernel) ⟨Nat.le_of_ble_eq_true rfl, Nat.le_of_ble_eq_true rfl⟩ 0 5 rfl rfl rfl hl.1 rfl rfl (Nat.le_of_ble_eq_true rfl) dX6_pass_9 ⟨Nat.zero_le _, Nat.zero_le _⟩ [0] [1, 2] [2, 0, 1] rfl rfl (by decide) (by decide) (by decide) rfl (fun H locs (hh : pq_H D A s (wX6_pass_io cI cL La th th_tape th_result th_lines ln ln_adpcmSpeaker ln_adpcmHearer ln_wideSpeaker ln_wideHearer c_ln_kind) H locs) => ?_)
    refine lv_astoreN (lv' := [(5, .null), (4, .ref ln), (0, .ref th), (1, .int a1), (2, .int a2), (3, .int a3)]) hx hb dX6_pass_12 hl (by decide) rfl (fun ls hl => ?_)
    refine lv_aload hx hb dX6_pass_14 (lv_at hl 1 rfl) ?_
    refine lv_ifnull hx hb dX6_pass_16 ?_
    refine lv_aloadN hx hb dX6_pass_19 (lv_at hl 0 rfl) ?_
    refine lv_ifnullN (tgt := 46) hx hb dX6_pass_21 (by decide) ?_
    refine lv_ldc (v := (-100000 : Int32)) hx hb hown kc34 dX6_pass_46 ?_
    obtain rfl := Option.some.inj hf
    exact hret _ _ _ ls hh dX6_pass_48 rfl
set_option maxHeartbeats 4000000 in
set_option maxRecDepth 100000 in
theorem qX6_pass_ii (l : Launch) (D : va_G) (cI cL : ClassId) (La : Nat → Nat) (th : Nat) (th_tape : Nat) (th_result : Nat) (th_lines : Nat) (ln : Nat) (ln_adpcmSpeaker : Nat) (ln_wideSpeaker : Nat) (ln_adpcmHearer : Nat) (ln_adpcmHearer_numbers : Nat) (ln_wideHearer : Nat) (ln_wideHearer_low : Nat) (ln_wideHearer_low_numbers : Nat) (ln_wideHearer_high : Nat) (ln_wideHearer_high_numbers : Nat) (ln_wideHearer_x : Nat) (lm : Nat) (lm_adpcmHearer : Nat) (lm_wideHearer : Nat) (lm_adpcmSpeaker : Nat) (lm_adpcmSpeaker_numbers : Nat) (lm_wideSpeaker : Nat) (lm_wideSpeaker_low : Nat) (lm_wideSpeaker_low_numbers : Nat) (lm_wideSpeaker_high : Nat) (lm_wideSpeaker_high_numbers : Nat) (lm_wideSpeaker_x : Nat) (c_ln_kind : Int32) (c_ln_adpcmHearer_bits : Int32) (c_ln_adpcmHearer_se : Int32) (c_ln_adpcmHearer_sz : Int32) (c_ln_adpcmHearer_step : Int32) (f_ln_adpcmHearer_numbers : Nat → Int32) (c_ln_wideHearer_secondHeard : Int32) (f_ln_wideHearer_low_numbers : Nat → Int32) (f_ln_wideHearer_high_numbers : Nat → Int32) (f_ln_wideHearer_x : Nat → Int32) (c_lm_kind : Int32) (c_lm_adpcmSpeaker_bits : Int32) (c_lm_adpcmSpeaker_se : Int32) (c_lm_adpcmSpeaker_sz : Int32) (c_lm_adpcmSpeaker_step : Int32) (f_lm_adpcmSpeaker_numbers : Nat → Int32) (c_lm_wideSpeaker_secondHeard : Int32) (f_lm_wideSpeaker_low_numbers : Nat → Int32) (f_lm_wideSpeaker_high_numbers : Nat → Int32) (f_lm_wideSpeaker_x : Nat → Int32) (a1 : Int32) (a2 : Int32) (a3 : Int32) (hLa1 : La a1.toNatClampNeg = ln) (hLa2 : La a2.toNatClampNeg = lm) (res : Int32 × Int32 × Int32 × Int32 × (Nat → Int32) × Int32 × (Nat → Int32) × (Nat → Int32) × (Nat → Int32) × Int32 × Int32 × Int32 × (Nat → Int32) × (Nat → Int32) × (Nat → Int32) × (Nat → Int32)) (hf : fX6_pass_ii a1 a2 a3 c_ln_kind c_ln_adpcmHearer_bits c_lm_kind c_lm_adpcmSpeaker_bits c_ln_adpcmHearer_se c_ln_adpcmHearer_sz c_ln_adpcmHearer_step f_ln_adpcmHearer_numbers c_ln_wideHearer_secondHeard f_ln_wideHearer_low_numbers f_ln_wideHearer_high_numbers f_ln_wideHearer_x c_lm_adpcmSpeaker_se c_lm_adpcmSpeaker_sz c_lm_adpcmSpeaker_step f_lm_adpcmSpeaker_numbers f_lm_wideSpeaker_low_numbers f_lm_wideSpeaker_high_numbers f_lm_wideSpeaker_x = some res) : pq_CI l yX6_pass qsX6_pass 6 149 D cI cL [.ref th, .int a1, .int a2, .int a3] (wX6_pass_ii cI cL La th th_tape th_result th_lines ln ln_adpcmSpeaker ln_wideSpeaker ln_adpcmHearer ln_adpcmHearer_numbers ln_wideHearer ln_wideHearer_low ln_wideHearer_low_numbers ln_wideHearer_high ln_wideHearer_high_numbers ln_wideHearer_x lm lm_adpcmHearer lm_wideHearer lm_adpcmSpeaker lm_adpcmSpeaker_numbers lm_wideSpeaker lm_wideSpeaker_low lm_wideSpeaker_low_numbers lm_wideSpeaker_high lm_wideSpeaker_high_numbers lm_wideSpeaker_x c_ln_kind c_ln_adpcmHearer_bits c_ln_adpcmHearer_se c_ln_adpcmHearer_sz c_ln_adpcmHearer_step f_ln_adpcmHearer_numbers c_ln_wideHearer_secondHeard f_ln_wideHearer_low_numbers f_ln_wideHearer_high_numbers f_ln_wideHearer_x c_lm_kind c_lm_adpcmSpeaker_bits c_lm_adpcmSpeaker_se c_lm_adpcmSpeaker_sz c_lm_adpcmSpeaker_step f_lm_adpcmSpeaker_numbers c_lm_wideSpeaker_secondHeard f_lm_wideSpeaker_low_numbers f_lm_wideSpeaker_high_numbers f_lm_wideSpeaker_x) (wX6_pass_ii cI cL La th th_tape th_result th_lines ln ln_adpcmSpeaker ln_wideSpeaker ln_adpcmHearer ln_adpcmHearer_numbers ln_wideHearer ln_wideHearer_low ln_wideHearer_low_numbers ln_wideHearer_high ln_wideHearer_high_numbers ln_wideHearer_x lm lm_adpcmHearer lm_wideHearer lm_adpcmSpeaker lm_adpcmSpeaker_numbers lm_wideSpeaker lm_wideSpeaker_low lm_wideSpeaker_low_numbers lm_wideSpeaker_high lm_wideSpeaker_high_numbers lm_wideSpeaker_x c_ln_kind c_ln_adpcmHearer_bits res.2.1 res.2.2.1 res.2.2.2.1 res.2.2.2.2.1 res.2.2.2.2.2.1 res.2.2.2.2.2.2.1 res.2.2.2.2.2.2.2.1 res.2.2.2.2.2.2.2.2.1 c_lm_kind c_lm_adpcmSpeaker_bits res.2.2.2.2.2.2.2.2.2.1 res.2.2.2.2.2.2.2.2.2.2.1 res.2.2.2.2.2.2.2.2.2.2.2.1 res.2.2.2.2.2.2.2.2.2.2.2.2.1 c_lm_wideSpeaker_secondHeard res.2.2.2.2.2.2.2.2.2.2.2.2.2.1 res.2.2.2.2.2.2.2.2.2.2.2.2.2.2.1 res.2.2.2.2.2.2.2.2.2.2.2.2.2.2.2) res.1 := by
  refine pq_mkI (cc := cX6_pass) (maxL := 7) (RT := .int) (by decide) rfl (Nat.le_of_ble_eq_true rfl) ?_
  intro p e s m args below meth c Q A C hh hret ls hl
  have hx := C.1
  have hb := C.2.1
  have hml := C.2.2.1
  have hown : s.vm.findClass RX6 = some m.cls := C.2.2.2.1
  have hs : ∀ w ∈ wsL_law, w ∈ qsX6_pass := fun _ h => List.mem_cons_of_mem _ h
  have htw : ∀ w ∈ wsL_law, w.before args s = true := fun w h => C.2.2.2.2.1 w (hs w h)
  have hl : lv_has ls 7 [(0, .ref th), (1, .int a1), (2, .int a2), (3, .int a3)] := hl
  have kc34 := htw (.constant RX6 34 (-100000)) (pq_m7 _ (List.mem_of_getElem? (i := 3) rfl))
  rw [fX6_pass_ii] at hf
  refine lv_aload_n hx hb dX6_pass_0 rfl (lv_at hl 0 rfl) ?_
  refine lv_iload_n hx hb dX6_pass_1 rfl (lv_at hl 1 rfl) ?_
  obtain ⟨r1, hu2, hf⟩ := pq_clx hf
  refine pq_cvQ (n := 1) (As := [.int a1]) C hh (qX6_openLine_i l D cI cL La th th_tape th_result th_lines ln ln_adpcmSpeaker ln_adpcmHearer ln_wideSpeaker ln_wideHearer c_ln_kind a1 hLa1 r1 hu2) (gvX6_openLine hs (pq_m7 _ (List.mem_of_getElem? (i := 4) rfl))) rfl (by decide +kernel) ⟨Nat.le_of_ble_eq_true rfl, Nat.le_of_ble_eq_true rfl⟩ 0 5 rfl rfl rfl hl.1 rfl rfl (Nat.le_of_ble_eq_true rfl) dX6_pass_2 ⟨Nat.zero_le _, Nat.zero_le _⟩ [0, 1, 2] [3, 4, 5, 6, 7, 8, 9, 10, 11, 12, 13, 14, 15, 16, 17, 18, 19] [17, 18, 19, 0, 1, 2, 3, 4, 5, 6, 7, 8, 9, 10, 11, 12, 13, 14, 15, 16] rfl rfl (by decide) (by decide) (by decide) rfl (fun H locs (hh : pq_H D A s (wX6_pass_ii cI cL La th th_tape th_result th_lines ln ln_adpcmSpeaker ln_wideSpeaker ln_adpcmHearer ln_adpcmHearer_numbers ln_wideHearer ln_wideHearer_low ln_wideHearer_low_numbers ln_wideHearer_high ln_wideHearer_high_numbers ln_wideHearer_x lm lm_adpcmHearer lm_wideHearer lm_adpcmSpeaker lm_adpcmSpeaker_numbers lm_wideSpeaker lm_wideSpeaker_low lm_wideSpeaker_low_numbers lm_wideSpeaker_high lm_wideSpeaker_high_numbers lm_wideSpeaker_x c_ln_kind c_ln_adpcmHearer_bits c_ln_adpcmHearer_se c_ln_adpcmHearer_sz c_ln_adpcmHearer_step f_ln_adpcmHearer_numbers c_ln_wideHearer_secondHeard f_ln_wideHearer_low_numbers f_ln_wideHearer_high_numbers f_ln_wideHearer_x c_lm_kind c_lm_adpcmSpeaker_bits c_lm_adpcmSpeaker_se c_lm_adpcmSpeaker_sz c_lm_adpcmSpeaker_step f_lm_adpcmSpeaker_numbers c_lm_wideSpeaker_secondHeard f_lm_wideSpeaker_low_numbers f_lm_wideSpeaker_high_numbers f_lm_wideSpeaker_x) H locs) => ?_)
  by_cases h3 : r1 = 0
  · have hf := pq_brt hf h3
    rw [if_pos h3]
    refine W.eq (g2 := F0 m 5 ls [.null]) rfl ?_
    refine lv_astoreN (lv' := [(4, .null), (0, .ref th), (1, .int a1), (2, .int a2), (3, .int a3)]) hx hb dX6_pass_5 hl (by decide) rfl (fun ls hl => ?_)
    refine lv_aload_n hx hb dX6_pass_7 rfl (lv_at hl 1 rfl) ?_
    refine lv_iload_n hx hb dX6_pass_8 rfl (lv_at hl 3 rfl) ?_
    obtain ⟨r4, hu5, hf⟩ := pq_clx hf
    refine pq_cvQ (n := 1) (As := [.int a2]) C hh (qX6_openLine_i l D cI cL La th th_tape th_result th_lines lm lm_adpcmSpeaker lm_adpcmHearer lm_wideSpeaker lm_wideHearer c_lm_kind a2 hLa2 r4 hu5) (gvX6_openLine hs (pq_m7 _ (List.mem_of_getElem? (i := 4) rfl))) rfl (by decide +kernel) ⟨Nat.le_of_ble_eq_true rfl, Nat.le_of_ble_eq_true rfl⟩ 0 5 rfl rfl rfl hl.1 rfl rfl (Nat.le_of_ble_eq_true rfl) dX6_pass_9 ⟨Nat.zero_le _, Nat.zero_le _⟩ [0, 1, 11] [2, 3, 4, 5, 6, 7, 8, 9, 10, 12, 13, 14, 15, 16, 17, 18, 19] [17, 18, 0, 1, 2, 3, 4, 5, 6, 7, 8, 19, 9, 10, 11, 12, 13, 14, 15, 16] rfl rfl (by decide) (by decide) (by decide) rfl (fun H locs (hh : pq_H D A s (wX6_pass_ii cI cL La th th_tape th_result th_lines ln ln_adpcmSpeaker ln_wideSpeaker ln_adpcmHearer ln_adpcmHearer_numbers ln_wideHearer ln_wideHearer_low ln_wideHearer_low_numbers ln_wideHearer_high ln_wideHearer_high_numbers ln_wideHearer_x lm lm_adpcmHearer lm_wideHearer lm_adpcmSpeaker lm_adpcmSpeaker_numbers lm_wideSpeaker lm_wideSpeaker_low lm_wideSpeaker_low_numbers lm_wideSpeaker_high lm_wideSpeaker_high_numbers lm_wideSpeaker_x c_ln_kind c_ln_adpcmHearer_bits c_ln_adpcmHearer_se c_ln_adpcmHearer_sz c_ln_adpcmHearer_step f_ln_adpcmHearer_numbers c_ln_wideHearer_secondHeard f_ln_wideHearer_low_numbers f_ln_wideHearer_high_numbers f_ln_wideHearer_x c_lm_kind c_lm_adpcmSpeaker_bits c_lm_adpcmSpeaker_se c_lm_adpcmSpeaker_sz c_lm_adpcmSpeaker_step f_lm_adpcmSpeaker_numbers c_lm_wideSpeaker_secondHeard f_lm_wideSpeaker_low_numbers f_lm_wideSpeaker_high_numbers f_lm_wideSpeaker_x) H locs) => ?_)
    by_cases h6 : r4 = 0
    · have hf := pq_brt hf h6
      rw [if_pos h6]
      refine W.eq (g2 := F0 m 12 ls [.null]) rfl ?_
      refine lv_astoreN (lv' := [(5, .null), (4, .null), (0, .ref th), (1, .int a1), (2, .int a2), (3, .int a3)]) hx hb dX6_pass_12 hl (by decide) rfl (fun ls hl => ?_)
      refine lv_aloadN hx hb dX6_pass_14 (lv_at hl 1 rfl) ?_
      refine lv_ifnullN (tgt := 46) hx hb dX6_pass_16 (by decide) ?_
      refine lv_ldc (v := (-100000 : Int32)) hx hb hown kc34 dX6_pass_46 ?_
      obtain rfl := Option.some.inj hf
      exact hret _ _ _ ls hh dX6_pass_48 rfl
    · have hf := pq_brf hf h6
      rw [if_neg h6]
      refine W.eq (g2 := F0 m 12 ls [.ref lm]) rfl ?_
      refine lv_astore (lv' := [(5, .ref lm), (4, .null), (0, .ref th), (1, .int a1), (2, .int a2), (3, .int a3)]) hx hb dX6_pass_12 hl (by decide) rfl (fun ls hl => ?_)
      refine lv_aloadN hx hb dX6_pass_14 (lv_at hl 1 rfl) ?_
      refine lv_ifnullN (tgt := 46) hx hb dX6_pass_16 (by decide) ?_
      refine lv_ldc (v := (-100000 : Int32)) hx hb hown kc34 dX6_pass_46 ?_
      obtain rfl := Option.some.inj hf
      exact hret _ _ _ ls hh dX6_pass_48 rfl
  · have hf := pq_brf hf h3
    rw [if_neg h3]
    refine W.eq (g2 := F0 m 5 ls [.ref ln]) rfl ?_
    refine lv_astore (lv' := [(4, .ref ln), (0, .ref th), (1, .int a1), (2, .int a2), (3, .int a3)]) hx hb dX6_pass_5 hl (by decide) rfl (fun ls hl => ?_)
    refine lv_aload_n hx hb dX6_pass_7 rfl (lv_at hl 1 rfl) ?_
    refine lv_iload_n hx hb dX6_pass_8 rfl (lv_at hl 3 rfl) ?_
    obtain ⟨r7, hu8, hf⟩ := pq_clx hf
    refine pq_cvQ (n := 1) (As := [.int a2]) C hh (qX6_openLine_i l D cI cL La th th_tape th_result th_lines lm lm_adpcmSpeaker lm_adpcmHearer lm_wideSpeaker lm_wideHearer c_lm_kind a2 hLa2 r7 hu8) (gvX6_openLine hs (pq_m7 _ (List.mem_of_getElem? (i := 4) rfl))) rfl (by decide +kernel) ⟨Nat.le_of_ble_eq_true rfl, Nat.le_of_ble_eq_true rfl⟩ 0 5 rfl rfl rfl hl.1 rfl rfl (Nat.le_of_ble_eq_true rfl) dX6_pass_9 ⟨Nat.zero_le _, Nat.zero_le _⟩ [0, 1, 11] [2, 3, 4, 5, 6, 7, 8, 9, 10, 12, 13, 14, 15, 16, 17, 18, 19] [17, 18, 0, 1, 2, 3, 4, 5, 6, 7, 8, 19, 9, 10, 11, 12, 13, 14, 15, 16] rfl rfl (by decide) (by decide) (by decide) rfl (fun H locs (hh : pq_H D A s (wX6_pass_ii cI cL La th th_tape th_result th_lines ln ln_adpcmSpeaker ln_wideSpeaker ln_adpcmHearer ln_adpcmHearer_numbers ln_wideHearer ln_wideHearer_low ln_wideHearer_low_numbers ln_wideHearer_high ln_wideHearer_high_numbers ln_wideHearer_x lm lm_adpcmHearer lm_wideHearer lm_adpcmSpeaker lm_adpcmSpeaker_numbers lm_wideSpeaker lm_wideSpeaker_low lm_wideSpeaker_low_numbers lm_wideSpeaker_high lm_wideSpeaker_high_numbers lm_wideSpeaker_x c_ln_kind c_ln_adpcmHearer_bits c_ln_adpcmHearer_se c_ln_adpcmHearer_sz c_ln_adpcmHearer_step f_ln_adpcmHearer_numbers c_ln_wideHearer_secondHeard f_ln_wideHearer_low_numbers f_ln_wideHearer_high_numbers f_ln_wideHearer_x c_lm_kind c_lm_adpcmSpeaker_bits c_lm_adpcmSpeaker_se c_lm_adpcmSpeaker_sz c_lm_adpcmSpeaker_step f_lm_adpcmSpeaker_numbers c_lm_wideSpeaker_secondHeard f_lm_wideSpeaker_low_numbers f_lm_wideSpeaker_high_numbers f_lm_wideSpeaker_x) H locs) => ?_)
    by_cases h9 : r7 = 0
    · have hf := pq_brt hf h9
      rw [if_pos h9]
      refine W.eq (g2 := F0 m 12 ls [.null]) rfl ?_
      refine lv_astoreN (lv' := [(5, .null), (4, .ref ln), (0, .ref th), (1, .int a1), (2, .int a2), (3, .int a3)]) hx hb dX6_pass_12 hl (by decide) rfl (fun ls hl => ?_)
      refine lv_aload hx hb dX6_pass_14 (lv_at hl 1 rfl) ?_
      refine lv_ifnull hx hb dX6_pass_16 ?_
      refine lv_aloadN hx hb dX6_pass_19 (lv_at hl 0 rfl) ?_
      refine lv_ifnullN (tgt := 46) hx hb dX6_pass_21 (by decide) ?_
      refine lv_ldc (v := (-100000 : Int32)) hx hb hown kc34 dX6_pass_46 ?_
      obtain rfl := Option.some.inj hf
      exact hret _ _ _ ls hh dX6_pass_48 rfl
    · have hf := pq_brf hf h9
      rw [if_neg h9]
      refine W.eq (g2 := F0 m 12 ls [.ref lm]) rfl ?_
      refine lv_astore (lv' := [(5, .ref lm), (4, .ref ln), (0, .ref th), (1, .int a1), (2, .int a2), (3, .int a3)]) hx hb dX6_pass_12 hl (by decide) rfl (fun ls hl => ?_)
      refine lv_aload hx hb dX6_pass_14 (lv_at hl 1 rfl) ?_
      refine lv_ifnull hx hb dX6_pass_16 ?_
      refine lv_aload hx hb dX6_pass_19 (lv_at hl 0 rfl) ?_
      refine lv_ifnull hx hb dX6_pass_21 ?_
      refine lv_aload hx hb dX6_pass_24 (lv_at hl 1 rfl) ?_
      refine lv_iload_n hx hb dX6_pass_26 rfl (lv_at hl 5 rfl) ?_
      obtain ⟨r10, hu11, hf⟩ := pq_clx hf
      refine pq_cvI (n := 1) (As := [.int a3]) C hh (qX4_hasCode l D cI cL ln ln_adpcmSpeaker ln_adpcmHearer ln_wideSpeaker ln_wideHearer c_ln_kind a3 r10 hu11) (gvX4_hasCode hs (pq_m21 _ (List.mem_of_getElem? (i := 1) rfl))) rfl (by decide +kernel) ⟨Nat.le_of_ble_eq_true rfl, Nat.le_of_ble_eq_true rfl⟩ 2 3 rfl rfl rfl hl.1 rfl rfl (Nat.le_of_ble_eq_true rfl) dX6_pass_27 ⟨Nat.zero_le _, Nat.zero_le _⟩ [2] [0, 1, 3, 4, 5, 6, 7, 8, 9, 10, 11, 12, 13, 14, 15, 16, 17, 18, 19] [0, 1, 19, 2, 3, 4, 5, 6, 7, 8, 9, 10, 11, 12, 13, 14, 15, 16, 17, 18] rfl rfl (by decide) (by decide) (by decide) rfl (fun H locs (hh : pq_H D A s (wX6_pass_ii cI cL La th th_tape th_result th_lines ln ln_adpcmSpeaker ln_wideSpeaker ln_adpcmHearer ln_adpcmHearer_numbers ln_wideHearer ln_wideHearer_low ln_wideHearer_low_numbers ln_wideHearer_high ln_wideHearer_high_numbers ln_wideHearer_x lm lm_adpcmHearer lm_wideHearer lm_adpcmSpeaker lm_adpcmSpeaker_numbers lm_wideSpeaker lm_wideSpeaker_low lm_wideSpeaker_low_numbers lm_wideSpeaker_high lm_wideSpeaker_high_numbers lm_wideSpeaker_x c_ln_kind c_ln_adpcmHearer_bits c_ln_adpcmHearer_se c_ln_adpcmHearer_sz c_ln_adpcmHearer_step f_ln_adpcmHearer_numbers c_ln_wideHearer_secondHeard f_ln_wideHearer_low_numbers f_ln_wideHearer_high_numbers f_ln_wideHearer_x c_lm_kind c_lm_adpcmSpeaker_bits c_lm_adpcmSpeaker_se c_lm_adpcmSpeaker_sz c_lm_adpcmSpeaker_step f_lm_adpcmSpeaker_numbers c_lm_wideSpeaker_secondHeard f_lm_wideSpeaker_low_numbers f_lm_wideSpeaker_high_numbers f_lm_wideSpeaker_x) H locs) => ?_)
      refine lv_if_eq (tgt := 46) hx hb dX6_pass_30 (by decide) (fun h12 => ?_) (fun h12 => ?_)
      · have hf := pq_brt hf h12
        refine lv_ldc (v := (-100000 : Int32)) hx hb hown kc34 dX6_pass_46 ?_
        obtain rfl := Option.some.inj hf
        exact hret _ _ _ ls hh dX6_pass_48 rfl
      · have hf := pq_brf hf h12
        refine lv_aload hx hb dX6_pass_33 (lv_at hl 1 rfl) ?_
        obtain ⟨r13, hu14, hf⟩ := pq_clx hf
        refine pq_cvI (n := 0) (As := []) C hh (qX4_isWide l D cI cL ln ln_adpcmSpeaker ln_adpcmHearer ln_wideSpeaker ln_wideHearer c_ln_kind r13 hu14) (gvX4_isWide hs (pq_m7 _ (List.mem_of_getElem? (i := 16) rfl))) rfl (by decide +kernel) ⟨Nat.le_of_ble_eq_true rfl, Nat.le_of_ble_eq_true rfl⟩ 2 3 rfl rfl rfl hl.1 rfl rfl (Nat.le_of_ble_eq_true rfl) dX6_pass_35 ⟨Nat.zero_le _, Nat.zero_le _⟩ [2] [0, 1, 3, 4, 5, 6, 7, 8, 9, 10, 11, 12, 13, 14, 15, 16, 17, 18, 19] [0, 1, 19, 2, 3, 4, 5, 6, 7, 8, 9, 10, 11, 12, 13, 14, 15, 16, 17, 18] rfl rfl (by decide) (by decide) (by decide) rfl (fun H locs (hh : pq_H D A s (wX6_pass_ii cI cL La th th_tape th_result th_lines ln ln_adpcmSpeaker ln_wideSpeaker ln_adpcmHearer ln_adpcmHearer_numbers ln_wideHearer ln_wideHearer_low ln_wideHearer_low_numbers ln_wideHearer_high ln_wideHearer_high_numbers ln_wideHearer_x lm lm_adpcmHearer lm_wideHearer lm_adpcmSpeaker lm_adpcmSpeaker_numbers lm_wideSpeaker lm_wideSpeaker_low lm_wideSpeaker_low_numbers lm_wideSpeaker_high lm_wideSpeaker_high_numbers lm_wideSpeaker_x c_ln_kind c_ln_adpcmHearer_bits c_ln_adpcmHearer_se c_ln_adpcmHearer_sz c_ln_adpcmHearer_step f_ln_adpcmHearer_numbers c_ln_wideHearer_secondHeard f_ln_wideHearer_low_numbers f_ln_wideHearer_high_numbers f_ln_wideHearer_x c_lm_kind c_lm_adpcmSpeaker_bits c_lm_adpcmSpeaker_se c_lm_adpcmSpeaker_sz c_lm_adpcmSpeaker_step f_lm_adpcmSpeaker_numbers c_lm_wideSpeaker_secondHeard f_lm_wideSpeaker_low_numbers f_lm_wideSpeaker_high_numbers f_lm_wideSpeaker_x) H locs) => ?_)
        refine lv_aload hx hb dX6_pass_38 (lv_at hl 0 rfl) ?_
        obtain ⟨r15, hu16, hf⟩ := pq_clx hf
        refine pq_cvI (n := 0) (As := []) C hh (qX4_isWide l D cI cL lm lm_adpcmSpeaker lm_adpcmHearer lm_wideSpeaker lm_wideHearer c_lm_kind r15 hu16) (gvX4_isWide hs (pq_m7 _ (List.mem_of_getElem? (i := 16) rfl))) rfl (by decide +kernel) ⟨Nat.le_of_ble_eq_true rfl, Nat.le_of_ble_eq_true rfl⟩ 11 3 rfl rfl rfl hl.1 rfl rfl (Nat.le_of_ble_eq_true rfl) dX6_pass_40 ⟨Nat.zero_le _, Nat.zero_le _⟩ [11] [0, 1, 2, 3, 4, 5, 6, 7, 8, 9, 10, 12, 13, 14, 15, 16, 17, 18, 19] [0, 1, 2, 3, 4, 5, 6, 7, 8, 9, 10, 19, 11, 12, 13, 14, 15, 16, 17, 18] rfl rfl (by decide) (by decide) (by decide) rfl (fun H locs (hh : pq_H D A s (wX6_pass_ii cI cL La th th_tape th_result th_lines ln ln_adpcmSpeaker ln_wideSpeaker ln_adpcmHearer ln_adpcmHearer_numbers ln_wideHearer ln_wideHearer_low ln_wideHearer_low_numbers ln_wideHearer_high ln_wideHearer_high_numbers ln_wideHearer_x lm lm_adpcmHearer lm_wideHearer lm_adpcmSpeaker lm_adpcmSpeaker_numbers lm_wideSpeaker lm_wideSpeaker_low lm_wideSpeaker_low_numbers lm_wideSpeaker_high lm_wideSpeaker_high_numbers lm_wideSpeaker_x c_ln_kind c_ln_adpcmHearer_bits c_ln_adpcmHearer_se c_ln_adpcmHearer_sz c_ln_adpcmHearer_step f_ln_adpcmHearer_numbers c_ln_wideHearer_secondHeard f_ln_wideHearer_low_numbers f_ln_wideHearer_high_numbers f_ln_wideHearer_x c_lm_kind c_lm_adpcmSpeaker_bits c_lm_adpcmSpeaker_se c_lm_adpcmSpeaker_sz c_lm_adpcmSpeaker_step f_lm_adpcmSpeaker_numbers c_lm_wideSpeaker_secondHeard f_lm_wideSpeaker_low_numbers f_lm_wideSpeaker_high_numbers f_lm_wideSpeaker_x) H locs) => ?_)
        refine lv_icmp_eq (tgt := 49) hx hb dX6_pass_43 (by decide) (fun h17 => ?_) (fun h17 => ?_)
        · have hf := pq_brt hf h17
          refine lv_aload hx hb dX6_pass_49 (lv_at hl 1 rfl) ?_
          refine lv_iload_n hx hb dX6_pass_51 rfl (lv_at hl 5 rfl) ?_
          obtain ⟨⟨r18, c19, c20, c21, f22, c23, f24, f25, f26⟩, hu27, hf⟩ := pq_clx hf
          have hf := pq_nmx hf r18 rfl
          have hf := pq_nmx hf c19 rfl
          have hf := pq_nmx hf c20 rfl
          have hf := pq_nmx hf c21 rfl
          have hf := pq_nmx hf f22 rfl
          have hf := pq_nmx hf c23 rfl
          have hf := pq_nmx hf f24 rfl
          have hf := pq_nmx hf f25 rfl
          have hf := pq_nmx hf f26 rfl
          refine pq_cvI (n := 1) (As := [.int a3]) C hh (qX4_decode l D cI cL ln ln_adpcmSpeaker ln_wideSpeaker ln_adpcmHearer ln_adpcmHearer_numbers ln_wideHearer ln_wideHearer_low ln_wideHearer_low_numbers ln_wideHearer_high ln_wideHearer_high_numbers ln_wideHearer_x c_ln_kind c_ln_adpcmHearer_bits c_ln_adpcmHearer_se c_ln_adpcmHearer_sz c_ln_adpcmHearer_step f_ln_adpcmHearer_numbers c_ln_wideHearer_secondHeard f_ln_wideHearer_low_numbers f_ln_wideHearer_high_numbers f_ln_wideHearer_x a3 (r18, c19, c20, c21, f22, c23, f24, f25, f26) hu27) (gvX4_decode hs (pq_m21 _ (List.mem_of_getElem? (i := 9) rfl))) rfl (by decide +kernel) ⟨Nat.le_of_ble_eq_true rfl, Nat.le_of_ble_eq_true rfl⟩ 2 3 rfl rfl rfl hl.1 rfl rfl (Nat.le_of_ble_eq_true rfl) dX6_pass_52 ⟨Nat.zero_le _, Nat.zero_le _⟩ [2, 3, 4, 5, 6, 7, 8, 9, 10] [0, 1, 11, 12, 13, 14, 15, 16, 17, 18, 19] [0, 1, 11, 12, 13, 14, 15, 16, 17, 18, 19, 2, 3, 4, 5, 6, 7, 8, 9, 10] rfl rfl (by decide) (by decide) (by decide) rfl (fun H locs (hh : pq_H D A s (wX6_pass_ii cI cL La th th_tape th_result th_lines ln ln_adpcmSpeaker ln_wideSpeaker ln_adpcmHearer ln_adpcmHearer_numbers ln_wideHearer ln_wideHearer_low ln_wideHearer_low_numbers ln_wideHearer_high ln_wideHearer_high_numbers ln_wideHearer_x lm lm_adpcmHearer lm_wideHearer lm_adpcmSpeaker lm_adpcmSpeaker_numbers lm_wideSpeaker lm_wideSpeaker_low lm_wideSpeaker_low_numbers lm_wideSpeaker_high lm_wideSpeaker_high_numbers lm_wideSpeaker_x c_ln_kind c_ln_adpcmHearer_bits c19 c20 c21 f22 c23 f24 f25 f26 c_lm_kind c_lm_adpcmSpeaker_bits c_lm_adpcmSpeaker_se c_lm_adpcmSpeaker_sz c_lm_adpcmSpeaker_step f_lm_adpcmSpeaker_numbers c_lm_wideSpeaker_secondHeard f_lm_wideSpeaker_low_numbers f_lm_wideSpeaker_high_numbers f_lm_wideSpeaker_x) H locs) => ?_)
          refine lv_istore (lv' := [(6, .int r18), (5, .ref lm), (4, .ref ln), (0, .ref th), (1, .int a1), (2, .int a2), (3, .int a3)]) hx hb dX6_pass_55 hl (by decide) rfl (fun ls hl => ?_)
          refine lv_aload hx hb dX6_pass_57 (lv_at hl 1 rfl) ?_
          refine lv_iload hx hb dX6_pass_59 (lv_at hl 0 rfl) ?_
          refine lv_aload hx hb dX6_pass_61 (lv_at hl 2 rfl) ?_
          obtain ⟨r29, hu30, hf⟩ := pq_clx hf
          refine pq_cvI (n := 0) (As := []) C hh (qX4_secondHeard l D cI cL ln ln_adpcmSpeaker ln_adpcmHearer ln_wideSpeaker ln_wideHearer ln_wideHearer_low ln_wideHearer_high ln_wideHearer_x c_ln_kind c23 r29 hu30) (gvX4_secondHeard hs (pq_m24 _ (List.mem_of_getElem? (i := 4) rfl))) rfl (by decide +kernel) ⟨Nat.le_of_ble_eq_true rfl, Nat.le_of_ble_eq_true rfl⟩ 2 3 rfl rfl rfl hl.1 rfl rfl (Nat.le_of_ble_eq_true rfl) dX6_pass_63 ⟨Nat.zero_le _, Nat.zero_le _⟩ [2, 5] [0, 1, 3, 4, 6, 7, 8, 9, 10, 11, 12, 13, 14, 15, 16, 17, 18, 19] [0, 1, 18, 2, 3, 19, 4, 5, 6, 7, 8, 9, 10, 11, 12, 13, 14, 15, 16, 17] rfl rfl (by decide) (by decide) (by decide) rfl (fun H locs (hh : pq_H D A s (wX6_pass_ii cI cL La th th_tape th_result th_lines ln ln_adpcmSpeaker ln_wideSpeaker ln_adpcmHearer ln_adpcmHearer_numbers ln_wideHearer ln_wideHearer_low ln_wideHearer_low_numbers ln_wideHearer_high ln_wideHearer_high_numbers ln_wideHearer_x lm lm_adpcmHearer lm_wideHearer lm_adpcmSpeaker lm_adpcmSpeaker_numbers lm_wideSpeaker lm_wideSpeaker_low lm_wideSpeaker_low_numbers lm_wideSpeaker_high lm_wideSpeaker_high_numbers lm_wideSpeaker_x c_ln_kind c_ln_adpcmHearer_bits c19 c20 c21 f22 c23 f24 f25 f26 c_lm_kind c_lm_adpcmSpeaker_bits c_lm_adpcmSpeaker_se c_lm_adpcmSpeaker_sz c_lm_adpcmSpeaker_step f_lm_adpcmSpeaker_numbers c_lm_wideSpeaker_secondHeard f_lm_wideSpeaker_low_numbers f_lm_wideSpeaker_high_numbers f_lm_wideSpeaker_x) H locs) => ?_)
          obtain ⟨⟨r31, c32, c33, c34, f35, f36, f37, f38⟩, hu39, hf⟩ := pq_clx hf
          have hf := pq_nmx hf r31 rfl
          have hf := pq_nmx hf c32 rfl
          have hf := pq_nmx hf c33 rfl
          have hf := pq_nmx hf c34 rfl
          have hf := pq_nmx hf f35 rfl
          have hf := pq_nmx hf f36 rfl
          have hf := pq_nmx hf f37 rfl
          have hf := pq_nmx hf f38 rfl
          refine pq_cvI (n := 2) (As := [.int r18, .int r29]) C hh (qX4_encode l D cI cL lm lm_adpcmHearer lm_wideHearer lm_adpcmSpeaker lm_adpcmSpeaker_numbers lm_wideSpeaker lm_wideSpeaker_low lm_wideSpeaker_low_numbers lm_wideSpeaker_high lm_wideSpeaker_high_numbers lm_wideSpeaker_x c_lm_kind c_lm_adpcmSpeaker_bits c_lm_adpcmSpeaker_se c_lm_adpcmSpeaker_sz c_lm_adpcmSpeaker_step f_lm_adpcmSpeaker_numbers c_lm_wideSpeaker_secondHeard f_lm_wideSpeaker_low_numbers f_lm_wideSpeaker_high_numbers f_lm_wideSpeaker_x r18 r29 (r31, c32, c33, c34, f35, f36, f37, f38) hu39) (gvX4_encode hs (pq_m7 _ (List.mem_of_getElem? (i := 20) rfl))) rfl (by decide +kernel) ⟨Nat.le_of_ble_eq_true rfl, Nat.le_of_ble_eq_true rfl⟩ 11 3 rfl rfl rfl hl.1 rfl rfl (Nat.le_of_ble_eq_true rfl) dX6_pass_66 ⟨Nat.zero_le _, Nat.zero_le _⟩ [11, 12, 13, 14, 15, 16, 17, 18, 19] [0, 1, 2, 3, 4, 5, 6, 7, 8, 9, 10] [0, 1, 2, 3, 4, 5, 6, 7, 8, 9, 10, 11, 12, 13, 14, 15, 16, 17, 18, 19] rfl rfl (by decide) (by decide) (by decide) rfl (fun H locs (hh : pq_H D A s (wX6_pass_ii cI cL La th th_tape th_result th_lines ln ln_adpcmSpeaker ln_wideSpeaker ln_adpcmHearer ln_adpcmHearer_numbers ln_wideHearer ln_wideHearer_low ln_wideHearer_low_numbers ln_wideHearer_high ln_wideHearer_high_numbers ln_wideHearer_x lm lm_adpcmHearer lm_wideHearer lm_adpcmSpeaker lm_adpcmSpeaker_numbers lm_wideSpeaker lm_wideSpeaker_low lm_wideSpeaker_low_numbers lm_wideSpeaker_high lm_wideSpeaker_high_numbers lm_wideSpeaker_x c_ln_kind c_ln_adpcmHearer_bits c19 c20 c21 f22 c23 f24 f25 f26 c_lm_kind c_lm_adpcmSpeaker_bits c32 c33 c34 f35 c_lm_wideSpeaker_secondHeard f36 f37 f38) H locs) => ?_)
          obtain rfl := Option.some.inj hf
          exact hret _ _ _ ls hh dX6_pass_69 rfl
        · have hf := pq_brf hf h17
          refine lv_ldc (v := (-100000 : Int32)) hx hb hown kc34 dX6_pass_46 ?_
          obtain rfl := Option.some.inj hf
          exact hret _ _ _ ls hh dX6_pass_48 rfl
set_option maxHeartbeats 4000000 in
set_option maxRecDepth 100000 in
theorem qX6_pass_is (l : Launch) (D : va_G) (cI cL : ClassId) (La : Nat → Nat) (th : Nat) (th_tape : Nat) (th_result : Nat) (th_lines : Nat) (ln : Nat) (ln_adpcmSpeaker : Nat) (ln_adpcmSpeaker_numbers : Nat) (ln_adpcmHearer : Nat) (ln_adpcmHearer_numbers : Nat) (ln_wideSpeaker : Nat) (ln_wideSpeaker_low : Nat) (ln_wideSpeaker_low_numbers : Nat) (ln_wideSpeaker_high : Nat) (ln_wideSpeaker_high_numbers : Nat) (ln_wideSpeaker_x : Nat) (ln_wideHearer : Nat) (ln_wideHearer_low : Nat) (ln_wideHearer_low_numbers : Nat) (ln_wideHearer_high : Nat) (ln_wideHearer_high_numbers : Nat) (ln_wideHearer_x : Nat) (c_ln_kind : Int32) (c_ln_adpcmSpeaker_bits : Int32) (c_ln_adpcmSpeaker_se : Int32) (c_ln_adpcmSpeaker_sz : Int32) (c_ln_adpcmSpeaker_step : Int32) (f_ln_adpcmSpeaker_numbers : Nat → Int32) (c_ln_adpcmHearer_bits : Int32) (c_ln_adpcmHearer_se : Int32) (c_ln_adpcmHearer_sz : Int32) (c_ln_adpcmHearer_step : Int32) (f_ln_adpcmHearer_numbers : Nat → Int32) (c_ln_wideSpeaker_secondHeard : Int32) (f_ln_wideSpeaker_low_numbers : Nat → Int32) (f_ln_wideSpeaker_high_numbers : Nat → Int32) (f_ln_wideSpeaker_x : Nat → Int32) (c_ln_wideHearer_secondHeard : Int32) (f_ln_wideHearer_low_numbers : Nat → Int32) (f_ln_wideHearer_high_numbers : Nat → Int32) (f_ln_wideHearer_x : Nat → Int32) (a1 : Int32) (a2 : Int32) (a3 : Int32) (hLa1 : La a1.toNatClampNeg = ln) (hLa2 : La a2.toNatClampNeg = ln) (res : Int32 × Int32 × Int32 × Int32 × (Nat → Int32) × Int32 × Int32 × Int32 × (Nat → Int32) × (Nat → Int32) × (Nat → Int32) × (Nat → Int32) × Int32 × (Nat → Int32) × (Nat → Int32) × (Nat → Int32)) (hf : fX6_pass_is a1 a2 a3 c_ln_kind c_ln_adpcmSpeaker_bits c_ln_adpcmHearer_bits c_ln_adpcmSpeaker_se c_ln_adpcmSpeaker_sz c_ln_adpcmSpeaker_step f_ln_adpcmSpeaker_numbers c_ln_adpcmHearer_se c_ln_adpcmHearer_sz c_ln_adpcmHearer_step f_ln_adpcmHearer_numbers f_ln_wideSpeaker_low_numbers f_ln_wideSpeaker_high_numbers f_ln_wideSpeaker_x c_ln_wideHearer_secondHeard f_ln_wideHearer_low_numbers f_ln_wideHearer_high_numbers f_ln_wideHearer_x = some res) : pq_CI l yX6_pass qsX6_pass 6 149 D cI cL [.ref th, .int a1, .int a2, .int a3] (wX6_pass_is cI cL La th th_tape th_result th_lines ln ln_adpcmSpeaker ln_adpcmSpeaker_numbers ln_adpcmHearer ln_adpcmHearer_numbers ln_wideSpeaker ln_wideSpeaker_low ln_wideSpeaker_low_numbers ln_wideSpeaker_high ln_wideSpeaker_high_numbers ln_wideSpeaker_x ln_wideHearer ln_wideHearer_low ln_wideHearer_low_numbers ln_wideHearer_high ln_wideHearer_high_numbers ln_wideHearer_x c_ln_kind c_ln_adpcmSpeaker_bits c_ln_adpcmSpeaker_se c_ln_adpcmSpeaker_sz c_ln_adpcmSpeaker_step f_ln_adpcmSpeaker_numbers c_ln_adpcmHearer_bits c_ln_adpcmHearer_se c_ln_adpcmHearer_sz c_ln_adpcmHearer_step f_ln_adpcmHearer_numbers c_ln_wideSpeaker_secondHeard f_ln_wideSpeaker_low_numbers f_ln_wideSpeaker_high_numbers f_ln_wideSpeaker_x c_ln_wideHearer_secondHeard f_ln_wideHearer_low_numbers f_ln_wideHearer_high_numbers f_ln_wideHearer_x) (wX6_pass_is cI cL La th th_tape th_result th_lines ln ln_adpcmSpeaker ln_adpcmSpeaker_numbers ln_adpcmHearer ln_adpcmHearer_numbers ln_wideSpeaker ln_wideSpeaker_low ln_wideSpeaker_low_numbers ln_wideSpeaker_high ln_wideSpeaker_high_numbers ln_wideSpeaker_x ln_wideHearer ln_wideHearer_low ln_wideHearer_low_numbers ln_wideHearer_high ln_wideHearer_high_numbers ln_wideHearer_x c_ln_kind c_ln_adpcmSpeaker_bits res.2.1 res.2.2.1 res.2.2.2.1 res.2.2.2.2.1 c_ln_adpcmHearer_bits res.2.2.2.2.2.1 res.2.2.2.2.2.2.1 res.2.2.2.2.2.2.2.1 res.2.2.2.2.2.2.2.2.1 c_ln_wideSpeaker_secondHeard res.2.2.2.2.2.2.2.2.2.1 res.2.2.2.2.2.2.2.2.2.2.1 res.2.2.2.2.2.2.2.2.2.2.2.1 res.2.2.2.2.2.2.2.2.2.2.2.2.1 res.2.2.2.2.2.2.2.2.2.2.2.2.2.1 res.2.2.2.2.2.2.2.2.2.2.2.2.2.2.1 res.2.2.2.2.2.2.2.2.2.2.2.2.2.2.2) res.1 := by
  refine pq_mkI (cc := cX6_pass) (maxL := 7) (RT := .int) (by decide) rfl (Nat.le_of_ble_eq_true rfl) ?_
  intro p e s m args below meth c Q A C hh hret ls hl
  have hx := C.1
  have hb := C.2.1
  have hml := C.2.2.1
  have hown : s.vm.findClass RX6 = some m.cls := C.2.2.2.1
  have hs : ∀ w ∈ wsL_law, w ∈ qsX6_pass := fun _ h => List.mem_cons_of_mem _ h
  have htw : ∀ w ∈ wsL_law, w.before args s = true := fun w h => C.2.2.2.2.1 w (hs w h)
  have hl : lv_has ls 7 [(0, .ref th), (1, .int a1), (2, .int a2), (3, .int a3)] := hl
  have kc34 := htw (.constant RX6 34 (-100000)) (pq_m7 _ (List.mem_of_getElem? (i := 3) rfl))
  rw [fX6_pass_is] at hf
  refine lv_aload_n hx hb dX6_pass_0 rfl (lv_at hl 0 rfl) ?_
  refine lv_iload_n hx hb dX6_pass_1 rfl (lv_at hl 1 rfl) ?_
  obtain ⟨r1, hu2, hf⟩ := pq_clx hf
  refine pq_cvQ (n := 1) (As := [.int a1]) C hh (qX6_openLine_i l D cI cL La th th_tape th_result th_lines ln ln_adpcmSpeaker ln_adpcmHearer ln_wideSpeaker ln_wideHearer c_ln_kind a1 hLa1 r1 hu2) (gvX6_openLine hs (pq_m7 _ (List.mem_of_getElem? (i := 4) rfl))) rfl (by decide +kernel) ⟨Nat.le_of_ble_eq_true rfl, Nat.le_of_ble_eq_true rfl⟩ 0 5 rfl rfl rfl hl.1 rfl rfl (Nat.le_of_ble_eq_true rfl) dX6_pass_2 ⟨Nat.zero_le _, Nat.zero_le _⟩ [0, 1, 2] [3, 4, 5, 6, 7, 8, 9, 10, 11, 12, 13, 14, 15, 16, 17, 18] [16, 17, 18, 0, 1, 2, 3, 4, 5, 6, 7, 8, 9, 10, 11, 12, 13, 14, 15] rfl rfl (by decide) (by decide) (by decide) rfl (fun H locs (hh : pq_H D A s (wX6_pass_is cI cL La th th_tape th_result th_lines ln ln_adpcmSpeaker ln_adpcmSpeaker_numbers ln_adpcmHearer ln_adpcmHearer_numbers ln_wideSpeaker ln_wideSpeaker_low ln_wideSpeaker_low_numbers ln_wideSpeaker_high ln_wideSpeaker_high_numbers ln_wideSpeaker_x ln_wideHearer ln_wideHearer_low ln_wideHearer_low_numbers ln_wideHearer_high ln_wideHearer_high_numbers ln_wideHearer_x c_ln_kind c_ln_adpcmSpeaker_bits c_ln_adpcmSpeaker_se c_ln_adpcmSpeaker_sz c_ln_adpcmSpeaker_step f_ln_adpcmSpeaker_numbers c_ln_adpcmHearer_bits c_ln_adpcmHearer_se c_ln_adpcmHearer_sz c_ln_adpcmHearer_step f_ln_adpcmHearer_numbers c_ln_wideSpeaker_secondHeard f_ln_wideSpeaker_low_numbers f_ln_wideSpeaker_high_numbers f_ln_wideSpeaker_x c_ln_wideHearer_secondHeard f_ln_wideHearer_low_numbers f_ln_wideHearer_high_numbers f_ln_wideHearer_x) H locs) => ?_)
  by_cases h3 : r1 = 0
  · have hf := pq_brt hf h3
    rw [if_pos h3]
    refine W.eq (g2 := F0 m 5 ls [.null]) rfl ?_
    refine lv_astoreN (lv' := [(4, .null), (0, .ref th), (1, .int a1), (2, .int a2), (3, .int a3)]) hx hb dX6_pass_5 hl (by decide) rfl (fun ls hl => ?_)
    refine lv_aload_n hx hb dX6_pass_7 rfl (lv_at hl 1 rfl) ?_
    refine lv_iload_n hx hb dX6_pass_8 rfl (lv_at hl 3 rfl) ?_
    obtain ⟨r4, hu5, hf⟩ := pq_clx hf
    refine pq_cvQ (n := 1) (As := [.int a2]) C hh (qX6_openLine_i l D cI cL La th th_tape th_result th_lines ln ln_adpcmSpeaker ln_adpcmHearer ln_wideSpeaker ln_wideHearer c_ln_kind a2 hLa2 r4 hu5) (gvX6_openLine hs (pq_m7 _ (List.mem_of_getElem? (i := 4) rfl))) rfl (by decide +kernel) ⟨Nat.le_of_ble_eq_true rfl, Nat.le_of_ble_eq_true rfl⟩ 0 5 rfl rfl rfl hl.1 rfl rfl (Nat.le_of_ble_eq_true rfl) dX6_pass_9 ⟨Nat.zero_le _, Nat.zero_le _⟩ [0, 1, 2] [3, 4, 5, 6, 7, 8, 9, 10, 11, 12, 13, 14, 15, 16, 17, 18] [16, 17, 18, 0, 1, 2, 3, 4, 5, 6, 7, 8, 9, 10, 11, 12, 13, 14, 15] rfl rfl (by decide) (by decide) (by decide) rfl (fun H locs (hh : pq_H D A s (wX6_pass_is cI cL La th th_tape th_result th_lines ln ln_adpcmSpeaker ln_adpcmSpeaker_numbers ln_adpcmHearer ln_adpcmHearer_numbers ln_wideSpeaker ln_wideSpeaker_low ln_wideSpeaker_low_numbers ln_wideSpeaker_high ln_wideSpeaker_high_numbers ln_wideSpeaker_x ln_wideHearer ln_wideHearer_low ln_wideHearer_low_numbers ln_wideHearer_high ln_wideHearer_high_numbers ln_wideHearer_x c_ln_kind c_ln_adpcmSpeaker_bits c_ln_adpcmSpeaker_se c_ln_adpcmSpeaker_sz c_ln_adpcmSpeaker_step f_ln_adpcmSpeaker_numbers c_ln_adpcmHearer_bits c_ln_adpcmHearer_se c_ln_adpcmHearer_sz c_ln_adpcmHearer_step f_ln_adpcmHearer_numbers c_ln_wideSpeaker_secondHeard f_ln_wideSpeaker_low_numbers f_ln_wideSpeaker_high_numbers f_ln_wideSpeaker_x c_ln_wideHearer_secondHeard f_ln_wideHearer_low_numbers f_ln_wideHearer_high_numbers f_ln_wideHearer_x) H locs) => ?_)
    by_cases h6 : r4 = 0
    · have hf := pq_brt hf h6
      rw [if_pos h6]
      refine W.eq (g2 := F0 m 12 ls [.null]) rfl ?_
      refine lv_astoreN (lv' := [(5, .null), (4, .null), (0, .ref th), (1, .int a1), (2, .int a2), (3, .int a3)]) hx hb dX6_pass_12 hl (by decide) rfl (fun ls hl => ?_)
      refine lv_aloadN hx hb dX6_pass_14 (lv_at hl 1 rfl) ?_
      refine lv_ifnullN (tgt := 46) hx hb dX6_pass_16 (by decide) ?_
      refine lv_ldc (v := (-100000 : Int32)) hx hb hown kc34 dX6_pass_46 ?_
      obtain rfl := Option.some.inj hf
      exact hret _ _ _ ls hh dX6_pass_48 rfl
    · have hf := pq_brf hf h6
      rw [if_neg h6]
      refine W.eq (g2 := F0 m 12 ls [.ref ln]) rfl ?_
      refine lv_astore (lv' := [(5, .ref ln), (4, .null), (0, .ref th), (1, .int a1), (2, .int a2), (3, .int a3)]) hx hb dX6_pass_12 hl (by decide) rfl (fun ls hl => ?_)
      refine lv_aloadN hx hb dX6_pass_14 (lv_at hl 1 rfl) ?_
      refine lv_ifnullN (tgt := 46) hx hb dX6_pass_16 (by decide) ?_
      refine lv_ldc (v := (-100000 : Int32)) hx hb hown kc34 dX6_pass_46 ?_
      obtain rfl := Option.some.inj hf
      exact hret _ _ _ ls hh dX6_pass_48 rfl
  · have hf := pq_brf hf h3
    rw [if_neg h3]
    refine W.eq (g2 := F0 m 5 ls [.ref ln]) rfl ?_
    refine lv_astore (lv' := [(4, .ref ln), (0, .ref th), (1, .int a1), (2, .int a2), (3, .int a3)]) hx hb dX6_pass_5 hl (by decide) rfl (fun ls hl => ?_)
    refine lv_aload_n hx hb dX6_pass_7 rfl (lv_at hl 1 rfl) ?_
    refine lv_iload_n hx hb dX6_pass_8 rfl (lv_at hl 3 rfl) ?_
    obtain ⟨r7, hu8, hf⟩ := pq_clx hf
    refine pq_cvQ (n := 1) (As := [.int a2]) C hh (qX6_openLine_i l D cI cL La th th_tape th_result th_lines ln ln_adpcmSpeaker ln_adpcmHearer ln_wideSpeaker ln_wideHearer c_ln_kind a2 hLa2 r7 hu8) (gvX6_openLine hs (pq_m7 _ (List.mem_of_getElem? (i := 4) rfl))) rfl (by decide +kernel) ⟨Nat.le_of_ble_eq_true rfl, Nat.le_of_ble_eq_true rfl⟩ 0 5 rfl rfl rfl hl.1 rfl rfl (Nat.le_of_ble_eq_true rfl) dX6_pass_9 ⟨Nat.zero_le _, Nat.zero_le _⟩ [0, 1, 2] [3, 4, 5, 6, 7, 8, 9, 10, 11, 12, 13, 14, 15, 16, 17, 18] [16, 17, 18, 0, 1, 2, 3, 4, 5, 6, 7, 8, 9, 10, 11, 12, 13, 14, 15] rfl rfl (by decide) (by decide) (by decide) rfl (fun H locs (hh : pq_H D A s (wX6_pass_is cI cL La th th_tape th_result th_lines ln ln_adpcmSpeaker ln_adpcmSpeaker_numbers ln_adpcmHearer ln_adpcmHearer_numbers ln_wideSpeaker ln_wideSpeaker_low ln_wideSpeaker_low_numbers ln_wideSpeaker_high ln_wideSpeaker_high_numbers ln_wideSpeaker_x ln_wideHearer ln_wideHearer_low ln_wideHearer_low_numbers ln_wideHearer_high ln_wideHearer_high_numbers ln_wideHearer_x c_ln_kind c_ln_adpcmSpeaker_bits c_ln_adpcmSpeaker_se c_ln_adpcmSpeaker_sz c_ln_adpcmSpeaker_step f_ln_adpcmSpeaker_numbers c_ln_adpcmHearer_bits c_ln_adpcmHearer_se c_ln_adpcmHearer_sz c_ln_adpcmHearer_step f_ln_adpcmHearer_numbers c_ln_wideSpeaker_secondHeard f_ln_wideSpeaker_low_numbers f_ln_wideSpeaker_high_numbers f_ln_wideSpeaker_x c_ln_wideHearer_secondHeard f_ln_wideHearer_low_numbers f_ln_wideHearer_high_numbers f_ln_wideHearer_x) H locs) => ?_)
    by_cases h9 : r7 = 0
    · have hf := pq_brt hf h9
      rw [if_pos h9]
      refine W.eq (g2 := F0 m 12 ls [.null]) rfl ?_
      refine lv_astoreN (lv' := [(5, .null), (4, .ref ln), (0, .ref th), (1, .int a1), (2, .int a2), (3, .int a3)]) hx hb dX6_pass_12 hl (by decide) rfl (fun ls hl => ?_)
      refine lv_aload hx hb dX6_pass_14 (lv_at hl 1 rfl) ?_
      refine lv_ifnull hx hb dX6_pass_16 ?_
      refine lv_aloadN hx hb dX6_pass_19 (lv_at hl 0 rfl) ?_
      refine lv_ifnullN (tgt := 46) hx hb dX6_pass_21 (by decide) ?_
      refine lv_ldc (v := (-100000 : Int32)) hx hb hown kc34 dX6_pass_46 ?_
      obtain rfl := Option.some.inj hf
      exact hret _ _ _ ls hh dX6_pass_48 rfl
    · have hf := pq_brf hf h9
      rw [if_neg h9]
      refine W.eq (g2 := F0 m 12 ls [.ref ln]) rfl ?_
      refine lv_astore (lv' := [(5, .ref ln), (4, .ref ln), (0, .ref th), (1, .int a1), (2, .int a2), (3, .int a3)]) hx hb dX6_pass_12 hl (by decide) rfl (fun ls hl => ?_)
      refine lv_aload hx hb dX6_pass_14 (lv_at hl 1 rfl) ?_
      refine lv_ifnull hx hb dX6_pass_16 ?_
      refine lv_aload hx hb dX6_pass_19 (lv_at hl 0 rfl) ?_
      refine lv_ifnull hx hb dX6_pass_21 ?_
      refine lv_aload hx hb dX6_pass_24 (lv_at hl 1 rfl) ?_
      refine lv_iload_n hx hb dX6_pass_26 rfl (lv_at hl 5 rfl) ?_
      obtain ⟨r10, hu11, hf⟩ := pq_clx hf
      refine pq_cvI (n := 1) (As := [.int a3]) C hh (qX4_hasCode l D cI cL ln ln_adpcmSpeaker ln_adpcmHearer ln_wideSpeaker ln_wideHearer c_ln_kind a3 r10 hu11) (gvX4_hasCode hs (pq_m21 _ (List.mem_of_getElem? (i := 1) rfl))) rfl (by decide +kernel) ⟨Nat.le_of_ble_eq_true rfl, Nat.le_of_ble_eq_true rfl⟩ 2 3 rfl rfl rfl hl.1 rfl rfl (Nat.le_of_ble_eq_true rfl) dX6_pass_27 ⟨Nat.zero_le _, Nat.zero_le _⟩ [2] [0, 1, 3, 4, 5, 6, 7, 8, 9, 10, 11, 12, 13, 14, 15, 16, 17, 18] [0, 1, 18, 2, 3, 4, 5, 6, 7, 8, 9, 10, 11, 12, 13, 14, 15, 16, 17] rfl rfl (by decide) (by decide) (by decide) rfl (fun H locs (hh : pq_H D A s (wX6_pass_is cI cL La th th_tape th_result th_lines ln ln_adpcmSpeaker ln_adpcmSpeaker_numbers ln_adpcmHearer ln_adpcmHearer_numbers ln_wideSpeaker ln_wideSpeaker_low ln_wideSpeaker_low_numbers ln_wideSpeaker_high ln_wideSpeaker_high_numbers ln_wideSpeaker_x ln_wideHearer ln_wideHearer_low ln_wideHearer_low_numbers ln_wideHearer_high ln_wideHearer_high_numbers ln_wideHearer_x c_ln_kind c_ln_adpcmSpeaker_bits c_ln_adpcmSpeaker_se c_ln_adpcmSpeaker_sz c_ln_adpcmSpeaker_step f_ln_adpcmSpeaker_numbers c_ln_adpcmHearer_bits c_ln_adpcmHearer_se c_ln_adpcmHearer_sz c_ln_adpcmHearer_step f_ln_adpcmHearer_numbers c_ln_wideSpeaker_secondHeard f_ln_wideSpeaker_low_numbers f_ln_wideSpeaker_high_numbers f_ln_wideSpeaker_x c_ln_wideHearer_secondHeard f_ln_wideHearer_low_numbers f_ln_wideHearer_high_numbers f_ln_wideHearer_x) H locs) => ?_)
      refine lv_if_eq (tgt := 46) hx hb dX6_pass_30 (by decide) (fun h12 => ?_) (fun h12 => ?_)
      · have hf := pq_brt hf h12
        refine lv_ldc (v := (-100000 : Int32)) hx hb hown kc34 dX6_pass_46 ?_
        obtain rfl := Option.some.inj hf
        exact hret _ _ _ ls hh dX6_pass_48 rfl
      · have hf := pq_brf hf h12
        refine lv_aload hx hb dX6_pass_33 (lv_at hl 1 rfl) ?_
        obtain ⟨r13, hu14, hf⟩ := pq_clx hf
        refine pq_cvI (n := 0) (As := []) C hh (qX4_isWide l D cI cL ln ln_adpcmSpeaker ln_adpcmHearer ln_wideSpeaker ln_wideHearer c_ln_kind r13 hu14) (gvX4_isWide hs (pq_m7 _ (List.mem_of_getElem? (i := 16) rfl))) rfl (by decide +kernel) ⟨Nat.le_of_ble_eq_true rfl, Nat.le_of_ble_eq_true rfl⟩ 2 3 rfl rfl rfl hl.1 rfl rfl (Nat.le_of_ble_eq_true rfl) dX6_pass_35 ⟨Nat.zero_le _, Nat.zero_le _⟩ [2] [0, 1, 3, 4, 5, 6, 7, 8, 9, 10, 11, 12, 13, 14, 15, 16, 17, 18] [0, 1, 18, 2, 3, 4, 5, 6, 7, 8, 9, 10, 11, 12, 13, 14, 15, 16, 17] rfl rfl (by decide) (by decide) (by decide) rfl (fun H locs (hh : pq_H D A s (wX6_pass_is cI cL La th th_tape th_result th_lines ln ln_adpcmSpeaker ln_adpcmSpeaker_numbers ln_adpcmHearer ln_adpcmHearer_numbers ln_wideSpeaker ln_wideSpeaker_low ln_wideSpeaker_low_numbers ln_wideSpeaker_high ln_wideSpeaker_high_numbers ln_wideSpeaker_x ln_wideHearer ln_wideHearer_low ln_wideHearer_low_numbers ln_wideHearer_high ln_wideHearer_high_numbers ln_wideHearer_x c_ln_kind c_ln_adpcmSpeaker_bits c_ln_adpcmSpeaker_se c_ln_adpcmSpeaker_sz c_ln_adpcmSpeaker_step f_ln_adpcmSpeaker_numbers c_ln_adpcmHearer_bits c_ln_adpcmHearer_se c_ln_adpcmHearer_sz c_ln_adpcmHearer_step f_ln_adpcmHearer_numbers c_ln_wideSpeaker_secondHeard f_ln_wideSpeaker_low_numbers f_ln_wideSpeaker_high_numbers f_ln_wideSpeaker_x c_ln_wideHearer_secondHeard f_ln_wideHearer_low_numbers f_ln_wideHearer_high_numbers f_ln_wideHearer_x) H locs) => ?_)
        refine lv_aload hx hb dX6_pass_38 (lv_at hl 0 rfl) ?_
        obtain ⟨r15, hu16, hf⟩ := pq_clx hf
        refine pq_cvI (n := 0) (As := []) C hh (qX4_isWide l D cI cL ln ln_adpcmSpeaker ln_adpcmHearer ln_wideSpeaker ln_wideHearer c_ln_kind r15 hu16) (gvX4_isWide hs (pq_m7 _ (List.mem_of_getElem? (i := 16) rfl))) rfl (by decide +kernel) ⟨Nat.le_of_ble_eq_true rfl, Nat.le_of_ble_eq_true rfl⟩ 2 3 rfl rfl rfl hl.1 rfl rfl (Nat.le_of_ble_eq_true rfl) dX6_pass_40 ⟨Nat.zero_le _, Nat.zero_le _⟩ [2] [0, 1, 3, 4, 5, 6, 7, 8, 9, 10, 11, 12, 13, 14, 15, 16, 17, 18] [0, 1, 18, 2, 3, 4, 5, 6, 7, 8, 9, 10, 11, 12, 13, 14, 15, 16, 17] rfl rfl (by decide) (by decide) (by decide) rfl (fun H locs (hh : pq_H D A s (wX6_pass_is cI cL La th th_tape th_result th_lines ln ln_adpcmSpeaker ln_adpcmSpeaker_numbers ln_adpcmHearer ln_adpcmHearer_numbers ln_wideSpeaker ln_wideSpeaker_low ln_wideSpeaker_low_numbers ln_wideSpeaker_high ln_wideSpeaker_high_numbers ln_wideSpeaker_x ln_wideHearer ln_wideHearer_low ln_wideHearer_low_numbers ln_wideHearer_high ln_wideHearer_high_numbers ln_wideHearer_x c_ln_kind c_ln_adpcmSpeaker_bits c_ln_adpcmSpeaker_se c_ln_adpcmSpeaker_sz c_ln_adpcmSpeaker_step f_ln_adpcmSpeaker_numbers c_ln_adpcmHearer_bits c_ln_adpcmHearer_se c_ln_adpcmHearer_sz c_ln_adpcmHearer_step f_ln_adpcmHearer_numbers c_ln_wideSpeaker_secondHeard f_ln_wideSpeaker_low_numbers f_ln_wideSpeaker_high_numbers f_ln_wideSpeaker_x c_ln_wideHearer_secondHeard f_ln_wideHearer_low_numbers f_ln_wideHearer_high_numbers f_ln_wideHearer_x) H locs) => ?_)
        refine lv_icmp_eq (tgt := 49) hx hb dX6_pass_43 (by decide) (fun h17 => ?_) (fun h17 => ?_)
        · have hf := pq_brt hf h17
          refine lv_aload hx hb dX6_pass_49 (lv_at hl 1 rfl) ?_
          refine lv_iload_n hx hb dX6_pass_51 rfl (lv_at hl 5 rfl) ?_
          obtain ⟨⟨r18, c19, c20, c21, f22, c23, f24, f25, f26⟩, hu27, hf⟩ := pq_clx hf
          have hf := pq_nmx hf r18 rfl
          have hf := pq_nmx hf c19 rfl
          have hf := pq_nmx hf c20 rfl
          have hf := pq_nmx hf c21 rfl
          have hf := pq_nmx hf f22 rfl
          have hf := pq_nmx hf c23 rfl
          have hf := pq_nmx hf f24 rfl
          have hf := pq_nmx hf f25 rfl
          have hf := pq_nmx hf f26 rfl
          refine pq_cvI (n := 1) (As := [.int a3]) C hh (qX4_decode l D cI cL ln ln_adpcmSpeaker ln_wideSpeaker ln_adpcmHearer ln_adpcmHearer_numbers ln_wideHearer ln_wideHearer_low ln_wideHearer_low_numbers ln_wideHearer_high ln_wideHearer_high_numbers ln_wideHearer_x c_ln_kind c_ln_adpcmHearer_bits c_ln_adpcmHearer_se c_ln_adpcmHearer_sz c_ln_adpcmHearer_step f_ln_adpcmHearer_numbers c_ln_wideHearer_secondHeard f_ln_wideHearer_low_numbers f_ln_wideHearer_high_numbers f_ln_wideHearer_x a3 (r18, c19, c20, c21, f22, c23, f24, f25, f26) hu27) (gvX4_decode hs (pq_m21 _ (List.mem_of_getElem? (i := 9) rfl))) rfl (by decide +kernel) ⟨Nat.le_of_ble_eq_true rfl, Nat.le_of_ble_eq_true rfl⟩ 2 3 rfl rfl rfl hl.1 rfl rfl (Nat.le_of_ble_eq_true rfl) dX6_pass_52 ⟨Nat.zero_le _, Nat.zero_le _⟩ [2, 5, 6, 13, 14, 15, 16, 17, 18] [0, 1, 3, 4, 7, 8, 9, 10, 11, 12] [0, 1, 10, 2, 3, 11, 12, 4, 5, 6, 7, 8, 9, 13, 14, 15, 16, 17, 18] rfl rfl (by decide) (by decide) (by decide) rfl (fun H locs (hh : pq_H D A s (wX6_pass_is cI cL La th th_tape th_result th_lines ln ln_adpcmSpeaker ln_adpcmSpeaker_numbers ln_adpcmHearer ln_adpcmHearer_numbers ln_wideSpeaker ln_wideSpeaker_low ln_wideSpeaker_low_numbers ln_wideSpeaker_high ln_wideSpeaker_high_numbers ln_wideSpeaker_x ln_wideHearer ln_wideHearer_low ln_wideHearer_low_numbers ln_wideHearer_high ln_wideHearer_high_numbers ln_wideHearer_x c_ln_kind c_ln_adpcmSpeaker_bits c_ln_adpcmSpeaker_se c_ln_adpcmSpeaker_sz c_ln_adpcmSpeaker_step f_ln_adpcmSpeaker_numbers c_ln_adpcmHearer_bits c19 c20 c21 f22 c_ln_wideSpeaker_secondHeard f_ln_wideSpeaker_low_numbers f_ln_wideSpeaker_high_numbers f_ln_wideSpeaker_x c23 f24 f25 f26) H locs) => ?_)
          refine lv_istore (lv' := [(6, .int r18), (5, .ref ln), (4, .ref ln), (0, .ref th), (1, .int a1), (2, .int a2), (3, .int a3)]) hx hb dX6_pass_55 hl (by decide) rfl (fun ls hl => ?_)
          refine lv_aload hx hb dX6_pass_57 (lv_at hl 1 rfl) ?_
          refine lv_iload hx hb dX6_pass_59 (lv_at hl 0 rfl) ?_
          refine lv_aload hx hb dX6_pass_61 (lv_at hl 2 rfl) ?_
          obtain ⟨r29, hu30, hf⟩ := pq_clx hf
          refine pq_cvI (n := 0) (As := []) C hh (qX4_secondHeard l D cI cL ln ln_adpcmSpeaker ln_adpcmHearer ln_wideSpeaker ln_wideHearer ln_wideHearer_low ln_wideHearer_high ln_wideHearer_x c_ln_kind c23 r29 hu30) (gvX4_secondHeard hs (pq_m24 _ (List.mem_of_getElem? (i := 4) rfl))) rfl (by decide +kernel) ⟨Nat.le_of_ble_eq_true rfl, Nat.le_of_ble_eq_true rfl⟩ 2 3 rfl rfl rfl hl.1 rfl rfl (Nat.le_of_ble_eq_true rfl) dX6_pass_63 ⟨Nat.zero_le _, Nat.zero_le _⟩ [2, 13] [0, 1, 3, 4, 5, 6, 7, 8, 9, 10, 11, 12, 14, 15, 16, 17, 18] [0, 1, 17, 2, 3, 4, 5, 6, 7, 8, 9, 10, 11, 18, 12, 13, 14, 15, 16] rfl rfl (by decide) (by decide) (by decide) rfl (fun H locs (hh : pq_H D A s (wX6_pass_is cI cL La th th_tape th_result th_lines ln ln_adpcmSpeaker ln_adpcmSpeaker_numbers ln_adpcmHearer ln_adpcmHearer_numbers ln_wideSpeaker ln_wideSpeaker_low ln_wideSpeaker_low_numbers ln_wideSpeaker_high ln_wideSpeaker_high_numbers ln_wideSpeaker_x ln_wideHearer ln_wideHearer_low ln_wideHearer_low_numbers ln_wideHearer_high ln_wideHearer_high_numbers ln_wideHearer_x c_ln_kind c_ln_adpcmSpeaker_bits c_ln_adpcmSpeaker_se c_ln_adpcmSpeaker_sz c_ln_adpcmSpeaker_step f_ln_adpcmSpeaker_numbers c_ln_adpcmHearer_bits c19 c20 c21 f22 c_ln_wideSpeaker_secondHeard f_ln_wideSpeaker_low_numbers f_ln_wideSpeaker_high_numbers f_ln_wideSpeaker_x c23 f24 f25 f26) H locs) => ?_)
          obtain ⟨⟨r31, c32, c33, c34, f35, f36, f37, f38⟩, hu39, hf⟩ := pq_clx hf
          have hf := pq_nmx hf r31 rfl
          have hf := pq_nmx hf c32 rfl
          have hf := pq_nmx hf c33 rfl
          have hf := pq_nmx hf c34 rfl
          have hf := pq_nmx hf f35 rfl
          have hf := pq_nmx hf f36 rfl
          have hf := pq_nmx hf f37 rfl
          have hf := pq_nmx hf f38 rfl
          refine pq_cvI (n := 2) (As := [.int r18, .int r29]) C hh (qX4_encode l D cI cL ln ln_adpcmHearer ln_wideHearer ln_adpcmSpeaker ln_adpcmSpeaker_numbers ln_wideSpeaker ln_wideSpeaker_low ln_wideSpeaker_low_numbers ln_wideSpeaker_high ln_wideSpeaker_high_numbers ln_wideSpeaker_x c_ln_kind c_ln_adpcmSpeaker_bits c_ln_adpcmSpeaker_se c_ln_adpcmSpeaker_sz c_ln_adpcmSpeaker_step f_ln_adpcmSpeaker_numbers c_ln_wideSpeaker_secondHeard f_ln_wideSpeaker_low_numbers f_ln_wideSpeaker_high_numbers f_ln_wideSpeaker_x r18 r29 (r31, c32, c33, c34, f35, f36, f37, f38) hu39) (gvX4_encode hs (pq_m7 _ (List.mem_of_getElem? (i := 20) rfl))) rfl (by decide +kernel) ⟨Nat.le_of_ble_eq_true rfl, Nat.le_of_ble_eq_true rfl⟩ 2 3 rfl rfl rfl hl.1 rfl rfl (Nat.le_of_ble_eq_true rfl) dX6_pass_66 ⟨Nat.zero_le _, Nat.zero_le _⟩ [2, 3, 4, 7, 8, 9, 10, 11, 12] [0, 1, 5, 6, 13, 14, 15, 16, 17, 18] [0, 1, 10, 11, 12, 2, 3, 13, 14, 15, 16, 17, 18, 4, 5, 6, 7, 8, 9] rfl rfl (by decide) (by decide) (by decide) rfl (fun H locs (hh : pq_H D A s (wX6_pass_is cI cL La th th_tape th_result th_lines ln ln_adpcmSpeaker ln_adpcmSpeaker_numbers ln_adpcmHearer ln_adpcmHearer_numbers ln_wideSpeaker ln_wideSpeaker_low ln_wideSpeaker_low_numbers ln_wideSpeaker_high ln_wideSpeaker_high_numbers ln_wideSpeaker_x ln_wideHearer ln_wideHearer_low ln_wideHearer_low_numbers ln_wideHearer_high ln_wideHearer_high_numbers ln_wideHearer_x c_ln_kind c_ln_adpcmSpeaker_bits c32 c33 c34 f35 c_ln_adpcmHearer_bits c19 c20 c21 f22 c_ln_wideSpeaker_secondHeard f36 f37 f38 c23 f24 f25 f26) H locs) => ?_)
          obtain rfl := Option.some.inj hf
          exact hret _ _ _ ls hh dX6_pass_69 rfl
        · have hf := pq_brf hf h17
          refine lv_ldc (v := (-100000 : Int32)) hx hb hown kc34 dX6_pass_46 ?_
          obtain rfl := Option.some.inj hf
          exact hret _ _ _ ls hh dX6_pass_48 rfl
