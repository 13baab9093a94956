set_option maxHeartbeats 4000000 in
set_option maxRecDepth 100000 in
theorem qX7_weight (l : Launch) (D : va_G) (cI cL : ClassId) (th : Nat) (ad : Nat → Nat) (c_told : Int32) (c_sumZ : Int32) (c_sumE : Int32) (c_stepY : Int32) (c_odd : Int32) (c_even : Int32) (c_taped : Int32) (c_outs : Int32) (c_isFound : Int32) (f_weight2 : Nat → Int32) (f_weight3 : Nat → Int32) (f_weight4 : Nat → Int32) (f_weight5 : Nat → Int32) (a1 : Int32) (a2 : Int32) (res : Int32) (hf : fX7_weight a1 a2 f_weight2 f_weight3 f_weight4 f_weight5 = some res) : pq_CI l yX7_weight qsX7_weight 1 22 D cI cL [.ref th, .int a1, .int a2] (wX7_weight cI th ad c_told c_sumZ c_sumE c_stepY c_odd c_even c_taped c_outs c_isFound f_weight2 f_weight3 f_weight4 f_weight5) (wX7_weight cI th ad c_told c_sumZ c_sumE c_stepY c_odd c_even c_taped c_outs c_isFound f_weight2 f_weight3 f_weight4 f_weight5) res := by
  refine pq_mkI (cc := cX7_weight) (maxL := 4) (RT := .int) (by decide) rfl (Nat.le_of_ble_eq_true rfl) ?_
  intro p e s m args below meth c Q A C hh hret ls hl
  have hx := C.1
  have hb := C.2.1
  have hml := C.2.2.1
  have hown : s.vm.findClass RX7 = some m.cls := C.2.2.2.1
  have hs : ∀ w ∈ wsL_law, w ∈ qsX7_weight := fun _ h => List.mem_cons_of_mem _ h
  have htw : ∀ w ∈ wsL_law, w.before args s = true := fun w h => C.2.2.2.2.1 w (hs w h)
  have hl : lv_has ls 4 [(0, .ref th), (1, .int a1), (2, .int a2)] := hl
  have i7 : ∀ w ∈ wsX70, w ∈ qsX7_weight := fun w h => hs w (pq_i7 w h)
  have kf44 := htw (.fieldLink RX7 44 "VoiceDeskModel" "weight2" "[I") (pq_m4 _ (List.mem_of_getElem? (i := 8) rfl))
  have kf47 := htw (.fieldLink RX7 47 "VoiceDeskModel" "weight3" "[I") (pq_m4 _ (List.mem_of_getElem? (i := 9) rfl))
  have kf51 := htw (.fieldLink RX7 51 "VoiceDeskModel" "weight4" "[I") (pq_m4 _ (List.mem_of_getElem? (i := 11) rfl))
  have kf54 := htw (.fieldLink RX7 54 "VoiceDeskModel" "weight5" "[I") (pq_m4 _ (List.mem_of_getElem? (i := 12) rfl))
  rw [fX7_weight] at hf
  refine lv_aload_n hx hb dX7_weight_0 rfl (lv_at hl 0 rfl) ?_
  refine lv_iload_n hx hb dX7_weight_1 rfl (lv_at hl 1 rfl) ?_
  refine lv_iload_n hx hb dX7_weight_2 rfl (lv_at hl 2 rfl) ?_
  obtain ⟨r1, hu2, hf⟩ := pq_clx hf
  refine pq_cvI (n := 2) (As := [.int a1, .int a2]) C hh (qX7_half l D cI cL th a1 a2 r1 hu2) (gvX7_half hs (pq_m18 _ (List.mem_of_getElem? (i := 11) rfl))) rfl (by decide +kernel) ⟨Nat.le_of_ble_eq_true rfl, Nat.le_of_ble_eq_true rfl⟩ 0 6 rfl rfl rfl hl.1 rfl rfl (Nat.le_of_ble_eq_true rfl) dX7_weight_3 ⟨Nat.zero_le _, Nat.zero_le _⟩ [] [0, 1, 2, 3, 4] [0, 1, 2, 3, 4] rfl rfl (by decide) (by decide) (by decide) rfl (fun H locs (hh : pq_H D A s (wX7_weight cI th ad c_told c_sumZ c_sumE c_stepY c_odd c_even c_taped c_outs c_isFound f_weight2 f_weight3 f_weight4 f_weight5) H locs) => ?_)
  refine lv_istore_n (lv' := [(3, .int r1), (0, .ref th), (1, .int a1), (2, .int a2)]) hx hb dX7_weight_6 rfl hl (by decide) rfl (fun ls hl => ?_)
  refine lv_iload_n hx hb dX7_weight_7 rfl (lv_at hl 2 rfl) ?_
  refine lv_iconst (v := (2 : Int32)) hx hb dX7_weight_8 (by decide) ?_
  refine lv_icmp_ne (tgt := 19) hx hb dX7_weight_9 (by decide) (fun h3 => ?_) (fun h3 => ?_)
  · have hf := pq_brf hf h3
    refine lv_iload_n hx hb dX7_weight_19 rfl (lv_at hl 2 rfl) ?_
    refine lv_iconst (v := (3 : Int32)) hx hb dX7_weight_20 (by decide) ?_
    refine lv_icmp_ne (tgt := 31) hx hb dX7_weight_21 (by decide) (fun h4 => ?_) (fun h4 => ?_)
    · have hf := pq_brf hf h4
      refine lv_iload_n hx hb dX7_weight_31 rfl (lv_at hl 2 rfl) ?_
      refine lv_iconst (v := (4 : Int32)) hx hb dX7_weight_32 (by decide) ?_
      refine lv_icmp_ne (tgt := 45) hx hb dX7_weight_33 (by decide) (fun h5 => ?_) (fun h5 => ?_)
      · have hf := pq_brf hf h5
        refine lv_aload_n hx hb dX7_weight_45 rfl (lv_at hl 1 rfl) ?_
        refine pq_get C hh i7 0 6 rfl rfl 15 (by decide) kf54 rfl rfl dX7_weight_46 ?_
        refine lv_iload_n hx hb dX7_weight_49 rfl (lv_at hl 0 rfl) ?_
        obtain ⟨h6, hf⟩ := pq_rdx hf
        refine pq_iald C hh 4 rfl h6 dX7_weight_50 (fun v7 e8 => ?_)
        have hf := hf v7 e8
        obtain rfl := Option.some.inj hf
        exact hret _ _ _ ls hh dX7_weight_51 rfl
      · have hf := pq_brt hf h5
        refine lv_aload_n hx hb dX7_weight_36 rfl (lv_at hl 1 rfl) ?_
        refine pq_get C hh i7 0 6 rfl rfl 14 (by decide) kf51 rfl rfl dX7_weight_37 ?_
        refine lv_iload_n hx hb dX7_weight_40 rfl (lv_at hl 0 rfl) ?_
        obtain ⟨h9, hf⟩ := pq_rdx hf
        refine pq_iald C hh 3 rfl h9 dX7_weight_41 (fun v10 e11 => ?_)
        have hf := hf v10 e11
        refine lv_goto (tgt := 51) hx hb dX7_weight_42 (by decide) ?_
        obtain rfl := Option.some.inj hf
        exact hret _ _ _ ls hh dX7_weight_51 rfl
    · have hf := pq_brt hf h4
      refine lv_aload_n hx hb dX7_weight_24 rfl (lv_at hl 1 rfl) ?_
      refine pq_get C hh i7 0 6 rfl rfl 13 (by decide) kf47 rfl rfl dX7_weight_25 ?_
      refine lv_iload_n hx hb dX7_weight_28 rfl (lv_at hl 0 rfl) ?_
      obtain ⟨h12, hf⟩ := pq_rdx hf
      refine pq_iald C hh 2 rfl h12 dX7_weight_29 (fun v13 e14 => ?_)
      have hf := hf v13 e14
      obtain rfl := Option.some.inj hf
      exact hret _ _ _ ls hh dX7_weight_30 rfl
  · have hf := pq_brt hf h3
    refine lv_aload_n hx hb dX7_weight_12 rfl (lv_at hl 1 rfl) ?_
    refine pq_get C hh i7 0 6 rfl rfl 12 (by decide) kf44 rfl rfl dX7_weight_13 ?_
    refine lv_iload_n hx hb dX7_weight_16 rfl (lv_at hl 0 rfl) ?_
    obtain ⟨h15, hf⟩ := pq_rdx hf
    refine pq_iald C hh 1 rfl h15 dX7_weight_17 (fun v16 e17 => ?_)
    have hf := hf v16 e17
    obtain rfl := Option.some.inj hf
    exact hret _ _ _ ls hh dX7_weight_18 rfl
set_option maxHeartbeats 4000000 in
set_option maxRecDepth 100000 in
theorem qX7_pace (l : Launch) (D : va_G) (cI cL : ClassId) (th : Nat) (ad : Nat → Nat) (c_told : Int32) (c_sumZ : Int32) (c_sumE : Int32) (c_stepY : Int32) (c_odd : Int32) (c_even : Int32) (c_taped : Int32) (c_outs : Int32) (c_isFound : Int32) (f_pace2 : Nat → Int32) (f_pace3 : Nat → Int32) (f_pace4 : Nat → Int32) (f_pace5 : Nat → Int32) (a1 : Int32) (a2 : Int32) (res : Int32) (hf : fX7_pace a1 a2 f_pace2 f_pace3 f_pace4 f_pace5 = some res) : pq_CI l yX7_pace qsX7_pace 1 22 D cI cL [.ref th, .int a1, .int a2] (wX7_pace cI th ad c_told c_sumZ c_sumE c_stepY c_odd c_even c_taped c_outs c_isFound f_pace2 f_pace3 f_pace4 f_pace5) (wX7_pace cI th ad c_told c_sumZ c_sumE c_stepY c_odd c_even c_taped c_outs c_isFound f_pace2 f_pace3 f_pace4 f_pace5) res := by
  refine pq_mkI (cc := cX7_pace) (maxL := 4) (RT := .int) (by decide) rfl (Nat.le_of_ble_eq_true rfl) ?_
  intro p e s m args below meth c Q A C hh hret ls hl
  have hx := C.1
  have hb := C.2.1
  have hml := C.2.2.1
  have hown : s.vm.findClass RX7 = some m.cls := C.2.2.2.1
  have hs : ∀ w ∈ wsL_law, w ∈ qsX7_pace := fun _ h => List.mem_cons_of_mem _ h
  have htw : ∀ w ∈ wsL_law, w.before args s = true := fun w h => C.2.2.2.2.1 w (hs w h)
  have hl : lv_has ls 4 [(0, .ref th), (1, .int a1), (2, .int a2)] := hl
  have i7 : ∀ w ∈ wsX70, w ∈ qsX7_pace := fun w h => hs w (pq_i7 w h)
  have kf57 := htw (.fieldLink RX7 57 "VoiceDeskModel" "pace2" "[I") (pq_m4 _ (List.mem_of_getElem? (i := 13) rfl))
  have kf60 := htw (.fieldLink RX7 60 "VoiceDeskModel" "pace3" "[I") (pq_m4 _ (List.mem_of_getElem? (i := 14) rfl))
  have kf63 := htw (.fieldLink RX7 63 "VoiceDeskModel" "pace4" "[I") (pq_m4 _ (List.mem_of_getElem? (i := 15) rfl))
  have kf66 := htw (.fieldLink RX7 66 "VoiceDeskModel" "pace5" "[I") (pq_m4 _ (List.mem_of_getElem? (i := 16) rfl))
  rw [fX7_pace] at hf
  refine lv_aload_n hx hb dX7_pace_0 rfl (lv_at hl 0 rfl) ?_
  refine lv_iload_n hx hb dX7_pace_1 rfl (lv_at hl 1 rfl) ?_
  refine lv_iload_n hx hb dX7_pace_2 rfl (lv_at hl 2 rfl) ?_
  obtain ⟨r1, hu2, hf⟩ := pq_clx hf
  refine pq_cvI (n := 2) (As := [.int a1, .int a2]) C hh (qX7_half l D cI cL th a1 a2 r1 hu2) (gvX7_half hs (pq_m18 _ (List.mem_of_getElem? (i := 11) rfl))) rfl (by decide +kernel) ⟨Nat.le_of_ble_eq_true rfl, Nat.le_of_ble_eq_true rfl⟩ 0 6 rfl rfl rfl hl.1 rfl rfl (Nat.le_of_ble_eq_true rfl) dX7_pace_3 ⟨Nat.zero_le _, Nat.zero_le _⟩ [] [0, 1, 2, 3, 4] [0, 1, 2, 3, 4] rfl rfl (by decide) (by decide) (by decide) rfl (fun H locs (hh : pq_H D A s (wX7_pace cI th ad c_told c_sumZ c_sumE c_stepY c_odd c_even c_taped c_outs c_isFound f_pace2 f_pace3 f_pace4 f_pace5) H locs) => ?_)
  refine lv_istore_n (lv' := [(3, .int r1), (0, .ref th), (1, .int a1), (2, .int a2)]) hx hb dX7_pace_6 rfl hl (by decide) rfl (fun ls hl => ?_)
  refine lv_iload_n hx hb dX7_pace_7 rfl (lv_at hl 2 rfl) ?_
  refine lv_iconst (v := (2 : Int32)) hx hb dX7_pace_8 (by decide) ?_
  refine lv_icmp_ne (tgt := 19) hx hb dX7_pace_9 (by decide) (fun h3 => ?_) (fun h3 => ?_)
  · have hf := pq_brf hf h3
    refine lv_iload_n hx hb dX7_pace_19 rfl (lv_at hl 2 rfl) ?_
    refine lv_iconst (v := (3 : Int32)) hx hb dX7_pace_20 (by decide) ?_
    refine lv_icmp_ne (tgt := 31) hx hb dX7_pace_21 (by decide) (fun h4 => ?_) (fun h4 => ?_)
    · have hf := pq_brf hf h4
      refine lv_iload_n hx hb dX7_pace_31 rfl (lv_at hl 2 rfl) ?_
      refine lv_iconst (v := (4 : Int32)) hx hb dX7_pace_32 (by decide) ?_
      refine lv_icmp_ne (tgt := 45) hx hb dX7_pace_33 (by decide) (fun h5 => ?_) (fun h5 => ?_)
      · have hf := pq_brf hf h5
        refine lv_aload_n hx hb dX7_pace_45 rfl (lv_at hl 1 rfl) ?_
        refine pq_get C hh i7 0 6 rfl rfl 19 (by decide) kf66 rfl rfl dX7_pace_46 ?_
        refine lv_iload_n hx hb dX7_pace_49 rfl (lv_at hl 0 rfl) ?_
        obtain ⟨h6, hf⟩ := pq_rdx hf
        refine pq_iald C hh 4 rfl h6 dX7_pace_50 (fun v7 e8 => ?_)
        have hf := hf v7 e8
        obtain rfl := Option.some.inj hf
        exact hret _ _ _ ls hh dX7_pace_51 rfl
      · have hf := pq_brt hf h5
        refine lv_aload_n hx hb dX7_pace_36 rfl (lv_at hl 1 rfl) ?_
        refine pq_get C hh i7 0 6 rfl rfl 18 (by decide) kf63 rfl rfl dX7_pace_37 ?_
        refine lv_iload_n hx hb dX7_pace_40 rfl (lv_at hl 0 rfl) ?_
        obtain ⟨h9, hf⟩ := pq_rdx hf
        refine pq_iald C hh 3 rfl h9 dX7_pace_41 (fun v10 e11 => ?_)
        have hf := hf v10 e11
        refine lv_goto (tgt := 51) hx hb dX7_pace_42 (by decide) ?_
        obtain rfl := Option.some.inj hf
        exact hret _ _ _ ls hh dX7_pace_51 rfl
    · have hf := pq_brt hf h4
      refine lv_aload_n hx hb dX7_pace_24 rfl (lv_at hl 1 rfl) ?_
      refine pq_get C hh i7 0 6 rfl rfl 17 (by decide) kf60 rfl rfl dX7_pace_25 ?_
      refine lv_iload_n hx hb dX7_pace_28 rfl (lv_at hl 0 rfl) ?_
      obtain ⟨h12, hf⟩ := pq_rdx hf
      refine pq_iald C hh 2 rfl h12 dX7_pace_29 (fun v13 e14 => ?_)
      have hf := hf v13 e14
      obtain rfl := Option.some.inj hf
      exact hret _ _ _ ls hh dX7_pace_30 rfl
  · have hf := pq_brt hf h3
    refine lv_aload_n hx hb dX7_pace_12 rfl (lv_at hl 1 rfl) ?_
    refine pq_get C hh i7 0 6 rfl rfl 16 (by decide) kf57 rfl rfl dX7_pace_13 ?_
    refine lv_iload_n hx hb dX7_pace_16 rfl (lv_at hl 0 rfl) ?_
    obtain ⟨h15, hf⟩ := pq_rdx hf
    refine pq_iald C hh 1 rfl h15 dX7_pace_17 (fun v16 e17 => ?_)
    have hf := hf v16 e17
    obtain rfl := Option.some.inj hf
    exact hret _ _ _ ls hh dX7_pace_18 rfl
set_option maxHeartbeats 4000000 in
set_option maxRecDepth 100000 in
theorem qX7_times (l : Launch) (D : va_G) (cI cL : ClassId) (th : Nat) (ad : Nat → Nat) (c_told : Int32) (c_sumZ : Int32) (c_sumE : Int32) (c_stepY : Int32) (c_odd : Int32) (c_even : Int32) (c_taped : Int32) (c_outs : Int32) (c_isFound : Int32) (a1 : Int32) (a2 : Int32) (res : Int32) (hf : fX7_times a1 a2 = some res) : pq_CI l yX7_times qsX7_times 1 22 D cI cL [.ref th, .int a1, .int a2] (wX7_times cI th ad c_told c_sumZ c_sumE c_stepY c_odd c_even c_taped c_outs c_isFound) (wX7_times cI th ad c_told c_sumZ c_sumE c_stepY c_odd c_even c_taped c_outs c_isFound) res := by
  refine pq_mkI (cc := cX7_times) (maxL := 9) (RT := .int) (by decide) rfl (Nat.le_of_ble_eq_true rfl) ?_
  intro p e s m args below meth c Q A C hh hret ls hl
  have hx := C.1
  have hb := C.2.1
  have hml := C.2.2.1
  have hown : s.vm.findClass RX7 = some m.cls := C.2.2.2.1
  have hs : ∀ w ∈ wsL_law, w ∈ qsX7_times := fun _ h => List.mem_cons_of_mem _ h
  have htw : ∀ w ∈ wsL_law, w.before args s = true := fun w h => C.2.2.2.2.1 w (hs w h)
  have hl : lv_has ls 9 [(0, .ref th), (1, .int a1), (2, .int a2)] := hl
  have J120 : ∀ (x8 : Int32) (s0 : Int32) (s1 : Int32) (H : Heap) (locs : List Loc), pq_H D A s (wX7_times cI th ad c_told c_sumZ c_sumE c_stepY c_odd c_even c_taped c_outs c_isFound) H locs → ∀ ls : Array Slot, lv_has ls 9 [(8, .int x8)] → fX7_times_b120   x8 s0 s1 = some res → W p l e (pq_rm 1 22) s m args below meth c H locs 0 0 Q (F0 m 120 ls [.int s1, .int s0]) := by
    intro x8 s0 s1 H locs hh ls hl hf
    rw [fX7_times_b120] at hf
    refine lv_icmp_eq (tgt := 129) hx hb dX7_times_120 (by decide) (fun h18 => ?_) (fun h18 => ?_)
    · have hf := pq_brt hf h18
      refine lv_iload hx hb dX7_times_129 (lv_at hl 0 rfl) ?_
      obtain rfl := Option.some.inj hf
      exact hret _ _ _ ls hh dX7_times_131 rfl
    · have hf := pq_brf hf h18
      refine lv_iload hx hb dX7_times_123 (lv_at hl 0 rfl) ?_
      refine lv_ineg hx hb dX7_times_125 ?_
      refine lv_goto (tgt := 131) hx hb dX7_times_126 (by decide) ?_
      obtain rfl := Option.some.inj hf
      exact hret _ _ _ ls hh dX7_times_131 rfl
  have J111 : ∀ (x2 : Int32) (x8 : Int32) (s0 : Int32) (H : Heap) (locs : List Loc), pq_H D A s (wX7_times cI th ad c_told c_sumZ c_sumE c_stepY c_odd c_even c_taped c_outs c_isFound) H locs → ∀ ls : Array Slot, lv_has ls 9 [(2, .int x2), (8, .int x8)] → fX7_times_b111   x2 x8 s0 = some res → W p l e (pq_rm 1 22) s m args below meth c H locs 0 0 Q (F0 m 111 ls [.int s0]) := by
    intro x2 x8 s0 H locs hh ls hl hf
    rw [fX7_times_b111] at hf
    refine lv_iload_n hx hb dX7_times_111 rfl (lv_at hl 0 rfl) ?_
    refine lv_if_ge (tgt := 119) hx hb dX7_times_112 (by decide) (fun h17 => ?_) (fun h17 => ?_)
    · have hf := pq_brt hf h17
      refine lv_iconst (v := (0 : Int32)) hx hb dX7_times_119 (by decide) ?_
      exact J120 x8 s0 (0 : Int32) _ _ hh ls (lv_sub hl [1] rfl) hf
    · have hf := pq_brf hf h17
      refine lv_iconst (v := (1 : Int32)) hx hb dX7_times_115 (by decide) ?_
      refine lv_goto (tgt := 120) hx hb dX7_times_116 (by decide) ?_
      exact J120 x8 s0 (1 : Int32) _ _ hh ls (lv_sub hl [1] rfl) hf
  have J100 : ∀ (x1 : Int32) (x2 : Int32) (s0 : Int32) (H : Heap) (locs : List Loc), pq_H D A s (wX7_times cI th ad c_told c_sumZ c_sumE c_stepY c_odd c_even c_taped c_outs c_isFound) H locs → ∀ ls : Array Slot, lv_has ls 9 [(1, .int x1), (2, .int x2)] → fX7_times_b100   x1 x2 s0 = some res → W p l e (pq_rm 1 22) s m args below meth c H locs 0 0 Q (F0 m 100 ls [.int s0]) := by
    intro x1 x2 s0 H locs hh ls hl hf
    rw [fX7_times_b100] at hf
    refine lv_istore (lv' := [(8, .int s0), (1, .int x1), (2, .int x2)]) hx hb dX7_times_100 hl (by decide) rfl (fun ls hl => ?_)
    refine lv_iload_n hx hb dX7_times_102 rfl (lv_at hl 1 rfl) ?_
    refine lv_if_ge (tgt := 110) hx hb dX7_times_103 (by decide) (fun h16 => ?_) (fun h16 => ?_)
    · have hf := pq_brt hf h16
      refine lv_iconst (v := (0 : Int32)) hx hb dX7_times_110 (by decide) ?_
      exact J111 x2 s0 (0 : Int32) _ _ hh ls (lv_sub hl [2, 0] rfl) hf
    · have hf := pq_brf hf h16
      refine lv_iconst (v := (1 : Int32)) hx hb dX7_times_106 (by decide) ?_
      refine lv_goto (tgt := 111) hx hb dX7_times_107 (by decide) ?_
      exact J111 x2 s0 (1 : Int32) _ _ hh ls (lv_sub hl [2, 0] rfl) hf
  have J46 : ∀ (x1 : Int32) (x2 : Int32) (x4 : Int32) (s0 : Int32) (H : Heap) (locs : List Loc), pq_H D A s (wX7_times cI th ad c_told c_sumZ c_sumE c_stepY c_odd c_even c_taped c_outs c_isFound) H locs → ∀ ls : Array Slot, lv_has ls 9 [(1, .int x1), (2, .int x2), (4, .int x4)] → fX7_times_b46   x1 x2 x4 s0 = some res → W p l e (pq_rm 1 22) s m args below meth c H locs 0 0 Q (F0 m 46 ls [.int s0]) := by
    intro x1 x2 x4 s0 H locs hh ls hl hf
    rw [fX7_times_b46] at hf
    refine lv_istore (lv' := [(5, .int s0), (1, .int x1), (2, .int x2), (4, .int x4)]) hx hb dX7_times_46 hl (by decide) rfl (fun ls hl => ?_)
    refine lv_iload hx hb dX7_times_48 (lv_at hl 3 rfl) ?_
    refine lv_iload_n hx hb dX7_times_50 rfl (lv_at hl 2 rfl) ?_
    refine lv_bipush (v := (6 : Int32)) hx hb dX7_times_51 (by decide) ?_
    refine lv_ishr hx hb dX7_times_53 ?_
    refine lv_bipush (v := (15 : Int32)) hx hb dX7_times_54 (by decide) ?_
    refine lv_iand hx hb dX7_times_56 ?_
    refine lv_iadd hx hb dX7_times_57 ?_
    refine lv_bipush (v := (13 : Int32)) hx hb dX7_times_58 (by decide) ?_
    refine lv_isub hx hb dX7_times_60 ?_
    refine lv_topi (fun v11 e12 => ?_)
    have hf := pq_nmx hf v11 e12
    refine lv_istore (lv' := [(6, .int v11), (5, .int s0), (1, .int x1), (2, .int x2), (4, .int x4)]) hx hb dX7_times_61 hl (by decide) rfl (fun ls hl => ?_)
    refine lv_iload hx hb dX7_times_63 (lv_at hl 1 rfl) ?_
    refine lv_iload_n hx hb dX7_times_65 rfl (lv_at hl 3 rfl) ?_
    refine lv_bipush (v := (63 : Int32)) hx hb dX7_times_66 (by decide) ?_
    refine lv_iand hx hb dX7_times_68 ?_
    refine lv_imul hx hb dX7_times_69 ?_
    refine lv_bipush (v := (48 : Int32)) hx hb dX7_times_70 (by decide) ?_
    refine lv_iadd hx hb dX7_times_72 ?_
    refine lv_iconst (v := (4 : Int32)) hx hb dX7_times_73 (by decide) ?_
    refine lv_ishr hx hb dX7_times_74 ?_
    refine lv_topi (fun v13 e14 => ?_)
    have hf := pq_nmx hf v13 e14
    refine lv_istore (lv' := [(7, .int v13), (6, .int v11), (5, .int s0), (1, .int x1), (2, .int x2), (4, .int x4)]) hx hb dX7_times_75 hl (by decide) rfl (fun ls hl => ?_)
    refine lv_iload hx hb dX7_times_77 (lv_at hl 1 rfl) ?_
    refine lv_if_lt (tgt := 94) hx hb dX7_times_79 (by decide) (fun h15 => ?_) (fun h15 => ?_)
    · have hf := pq_brt hf h15
      refine lv_iload hx hb dX7_times_94 (lv_at hl 0 rfl) ?_
      refine lv_iload hx hb dX7_times_96 (lv_at hl 1 rfl) ?_
      refine lv_ineg hx hb dX7_times_98 ?_
      refine lv_ishr hx hb dX7_times_99 ?_
      exact J100 x1 x2 (v13 >>> ((-v11) &&& 31)) _ _ hh ls (lv_sub hl [3, 4] rfl) hf
    · have hf := pq_brf hf h15
      refine lv_iload hx hb dX7_times_82 (lv_at hl 0 rfl) ?_
      refine lv_iload hx hb dX7_times_84 (lv_at hl 1 rfl) ?_
      refine lv_ishl hx hb dX7_times_86 ?_
      refine lv_sipush (v := (32767 : Int32)) hx hb dX7_times_87 (by decide) ?_
      refine lv_iand hx hb dX7_times_90 ?_
      refine lv_goto (tgt := 100) hx hb dX7_times_91 (by decide) ?_
      exact J100 x1 x2 ((v13 <<< (v11 &&& 31)) &&& (32767 : Int32)) _ _ hh ls (lv_sub hl [3, 4] rfl) hf
  rw [fX7_times] at hf
  refine lv_aload_n hx hb dX7_times_0 rfl (lv_at hl 0 rfl) ?_
  refine lv_iload_n hx hb dX7_times_1 rfl (lv_at hl 1 rfl) ?_
  obtain ⟨r1, hu2, hf⟩ := pq_clx hf
  refine pq_cvI (n := 1) (As := [.int a1]) C hh (qX7_amount l D cI cL th a1 r1 hu2) (gvX7_amount hs (pq_m16 _ (List.mem_of_getElem? (i := 16) rfl))) rfl (by decide +kernel) ⟨Nat.le_of_ble_eq_true rfl, Nat.le_of_ble_eq_true rfl⟩ 0 6 rfl rfl rfl hl.1 rfl rfl (Nat.le_of_ble_eq_true rfl) dX7_times_2 ⟨Nat.zero_le _, Nat.zero_le _⟩ [] [0] [0] rfl rfl (by decide) (by decide) (by decide) rfl (fun H locs (hh : pq_H D A s (wX7_times cI th ad c_told c_sumZ c_sumE c_stepY c_odd c_even c_taped c_outs c_isFound) H locs) => ?_)
  refine lv_sipush (v := (8191 : Int32)) hx hb dX7_times_5 (by decide) ?_
  refine lv_iand hx hb dX7_times_8 ?_
  refine lv_topi (fun v3 e4 => ?_)
  have hf := pq_nmx hf v3 e4
  refine lv_istore_n (lv' := [(3, .int v3), (0, .ref th), (1, .int a1), (2, .int a2)]) hx hb dX7_times_9 rfl hl (by decide) rfl (fun ls hl => ?_)
  refine lv_aload_n hx hb dX7_times_10 rfl (lv_at hl 1 rfl) ?_
  refine lv_iload_n hx hb dX7_times_11 rfl (lv_at hl 0 rfl) ?_
  obtain ⟨r5, hu6, hf⟩ := pq_clx hf
  refine pq_cvI (n := 1) (As := [.int v3]) C hh (qX7_size l D cI cL th v3 r5 hu6) (gvX7_size hs (pq_m17 _ (List.mem_of_getElem? (i := 15) rfl))) rfl (by decide +kernel) ⟨Nat.le_of_ble_eq_true rfl, Nat.le_of_ble_eq_true rfl⟩ 0 6 rfl rfl rfl hl.1 rfl rfl (Nat.le_of_ble_eq_true rfl) dX7_times_12 ⟨Nat.zero_le _, Nat.zero_le _⟩ [] [0] [0] rfl rfl (by decide) (by decide) (by decide) rfl (fun H locs (hh : pq_H D A s (wX7_times cI th ad c_told c_sumZ c_sumE c_stepY c_odd c_even c_taped c_outs c_isFound) H locs) => ?_)
  refine lv_bipush (v := (6 : Int32)) hx hb dX7_times_15 (by decide) ?_
  refine lv_isub hx hb dX7_times_17 ?_
  refine lv_topi (fun v7 e8 => ?_)
  have hf := pq_nmx hf v7 e8
  refine lv_istore (lv' := [(4, .int v7), (3, .int v3), (0, .ref th), (1, .int a1), (2, .int a2)]) hx hb dX7_times_18 hl (by decide) rfl (fun ls hl => ?_)
  refine lv_iload_n hx hb dX7_times_20 rfl (lv_at hl 1 rfl) ?_
  refine lv_if_ne (tgt := 29) hx hb dX7_times_21 (by decide) (fun h9 => ?_) (fun h9 => ?_)
  · have hf := pq_brf hf h9
    refine lv_iload hx hb dX7_times_29 (lv_at hl 0 rfl) ?_
    refine lv_if_lt (tgt := 41) hx hb dX7_times_31 (by decide) (fun h10 => ?_) (fun h10 => ?_)
    · have hf := pq_brt hf h10
      refine lv_iload_n hx hb dX7_times_41 rfl (lv_at hl 1 rfl) ?_
      refine lv_iload hx hb dX7_times_42 (lv_at hl 0 rfl) ?_
      refine lv_ineg hx hb dX7_times_44 ?_
      refine lv_ishl hx hb dX7_times_45 ?_
      exact J46 a1 a2 v7 (v3 <<< ((-v7) &&& 31)) _ _ hh ls (lv_sub hl [3, 4, 0] rfl) hf
    · have hf := pq_brf hf h10
      refine lv_iload_n hx hb dX7_times_34 rfl (lv_at hl 1 rfl) ?_
      refine lv_iload hx hb dX7_times_35 (lv_at hl 0 rfl) ?_
      refine lv_ishr hx hb dX7_times_37 ?_
      refine lv_goto (tgt := 46) hx hb dX7_times_38 (by decide) ?_
      exact J46 a1 a2 v7 (v3 >>> (v7 &&& 31)) _ _ hh ls (lv_sub hl [3, 4, 0] rfl) hf
  · have hf := pq_brt hf h9
    refine lv_bipush (v := (32 : Int32)) hx hb dX7_times_24 (by decide) ?_
    refine lv_goto (tgt := 46) hx hb dX7_times_26 (by decide) ?_
    exact J46 a1 a2 v7 (32 : Int32) _ _ hh ls (lv_sub hl [3, 4, 0] rfl) hf
set_option maxHeartbeats 4000000 in
set_option maxRecDepth 100000 in
theorem qX7_forehand (l : Launch) (D : va_G) (cI cL : ClassId) (th : Nat) (ad : Nat → Nat) (c_told : Int32) (c_sumZ : Int32) (c_sumE : Int32) (c_stepY : Int32) (c_odd : Int32) (c_even : Int32) (c_taped : Int32) (c_outs : Int32) (c_isFound : Int32) (f_g : Nat → Int32) (a1 : Int32) (res : Int32 × Int32 × Int32) (hf : fX7_forehand a1 f_g c_sumZ c_sumE c_stepY = some res) : pq_CV l yX7_forehand qsX7_forehand 2 50 D cI cL [.ref th, .int a1] (wX7_forehand cI th ad c_told c_sumZ c_sumE c_stepY c_odd c_even c_taped c_outs c_isFound f_g) (wX7_forehand cI th ad c_told res.1 res.2.1 res.2.2 c_odd c_even c_taped c_outs c_isFound f_g) := by
  refine pq_mkV (cc := cX7_forehand) (maxL := 7) (by decide) rfl (Nat.le_of_ble_eq_true rfl) ?_
  intro p e s m args below meth c Q A C hh hret ls hl
  have hx := C.1
  have hb := C.2.1
  have hml := C.2.2.1
  have hown : s.vm.findClass RX7 = some m.cls := C.2.2.2.1
  have hs : ∀ w ∈ wsL_law, w ∈ qsX7_forehand := fun _ h => List.mem_cons_of_mem _ h
  have htw : ∀ w ∈ wsL_law, w.before args s = true := fun w h => C.2.2.2.2.1 w (hs w h)
  have hl : lv_has ls 7 [(0, .ref th), (1, .int a1)] := hl
  have i7 : ∀ w ∈ wsX70, w ∈ qsX7_forehand := fun w h => hs w (pq_i7 w h)
  have kf143 := htw (.fieldLink RX7 143 "VoiceDeskModel" "sumZ" "I") (pq_m17 _ (List.mem_of_getElem? (i := 10) rfl))
  have kf146 := htw (.fieldLink RX7 146 "VoiceDeskModel" "sumE" "I") (pq_m17 _ (List.mem_of_getElem? (i := 4) rfl))
  have kf149 := htw (.fieldLink RX7 149 "VoiceDeskModel" "stepY" "I") (pq_m17 _ (List.mem_of_getElem? (i := 5) rfl))
  have kf17 := htw (.fieldLink RX7 17 "VoiceDeskModel" "g" "[I") (pq_m3 _ (List.mem_of_getElem? (i := 23) rfl))
  have J10 : ∀ (fuel10 : Nat) (x2 : Int32) (x3 : Int32) (x4 : Int32) (c_sumZ : Int32) (c_sumE : Int32) (c_stepY : Int32) (H : Heap) (locs : List Loc), pq_H D A s (wX7_forehand cI th ad c_told c_sumZ c_sumE c_stepY c_odd c_even c_taped c_outs c_isFound f_g) H locs → ∀ ls : Array Slot, lv_has ls 7 [(0, .ref th), (2, .int x2), (3, .int x3), (4, .int x4)] → fX7_forehand_b10  f_g fuel10 x2 x3 x4 c_sumZ c_sumE c_stepY = some res → W p l e (pq_rm 2 50) s m args below meth c H locs 0 0 Q (F0 m 10 ls []) := by
    intro fuel10
    induction fuel10 with
    | zero => intro x2 x3 x4 c_sumZ c_sumE c_stepY H locs hh ls hl hf; rw [fX7_forehand_b10] at hf; cases hf
    | succ fuel10 ih10 =>
      intro x2 x3 x4 c_sumZ c_sumE c_stepY H locs hh ls hl hf
      rw [fX7_forehand_b10] at hf
      refine lv_iload hx hb dX7_forehand_10 (lv_at hl 3 rfl) ?_
      refine lv_bipush (v := (6 : Int32)) hx hb dX7_forehand_12 (by decide) ?_
      refine lv_icmp_ge (tgt := 56) hx hb dX7_forehand_14 (by decide) (fun h3 => ?_) (fun h3 => ?_)
      · have hf := pq_brt hf h3
        refine lv_aload_n hx hb dX7_forehand_56 rfl (lv_at hl 0 rfl) ?_
        refine lv_iload_n hx hb dX7_forehand_57 rfl (lv_at hl 2 rfl) ?_
        obtain ⟨r4, hu5, hf⟩ := pq_clx hf
        refine pq_cvI (n := 1) (As := [.int x3]) C hh (qX7_wrapped l D cI cL th x3 r4 hu5) (gvX7_wrapped hs (pq_m17 _ (List.mem_of_getElem? (i := 19) rfl))) rfl (by decide +kernel) ⟨Nat.le_of_ble_eq_true rfl, Nat.le_of_ble_eq_true rfl⟩ 0 6 rfl rfl rfl hl.1 rfl rfl (Nat.le_of_ble_eq_true rfl) dX7_forehand_58 ⟨Nat.zero_le _, Nat.zero_le _⟩ [] [0, 1] [0, 1] rfl rfl (by decide) (by decide) (by decide) rfl (fun H locs (hh : pq_H D A s (wX7_forehand cI th ad c_told c_sumZ c_sumE c_stepY c_odd c_even c_taped c_outs c_isFound f_g) H locs) => ?_)
        refine lv_istore_n (lv' := [(3, .int r4), (0, .ref th), (2, .int x2), (4, .int x4)]) hx hb dX7_forehand_61 rfl hl (by decide) rfl (fun ls hl => ?_)
        refine lv_aload_n hx hb dX7_forehand_62 rfl (lv_at hl 1 rfl) ?_
        refine lv_iload_n hx hb dX7_forehand_63 rfl (lv_at hl 0 rfl) ?_
        refine lv_iconst (v := (1 : Int32)) hx hb dX7_forehand_64 (by decide) ?_
        refine lv_ishr hx hb dX7_forehand_65 ?_
        refine lv_topi (fun v6 e7 => ?_)
        have hf := pq_nmx hf v6 e7
        refine pq_put (ty := .int) (v := .int v6) C hh i7 tyX7 tyX7_ok nmX7 0 6 rfl rfl 20 (by decide) kf143 rfl rfl (by decide +kernel) rfl rfl (Nat.le_of_ble_eq_true rfl) dX7_forehand_66 (fun H locs (hh : pq_H D A s (wX7_forehand cI th ad c_told v6 c_sumE c_stepY c_odd c_even c_taped c_outs c_isFound f_g) H locs) => ?_)
        refine lv_aload_n hx hb dX7_forehand_69 rfl (lv_at hl 1 rfl) ?_
        refine lv_aload_n hx hb dX7_forehand_70 rfl (lv_at hl 1 rfl) ?_
        refine lv_iload_n hx hb dX7_forehand_71 rfl (lv_at hl 0 rfl) ?_
        refine lv_aload_n hx hb dX7_forehand_72 rfl (lv_at hl 1 rfl) ?_
        refine lv_aload_n hx hb dX7_forehand_73 rfl (lv_at hl 1 rfl) ?_
        refine pq_get C hh i7 0 6 rfl rfl 3 (by decide) kf17 rfl rfl dX7_forehand_74 ?_
        refine lv_iload_n hx hb dX7_forehand_77 rfl (lv_at hl 2 rfl) ?_
        refine lv_bipush (v := (7 : Int32)) hx hb dX7_forehand_78 (by decide) ?_
        refine lv_iadd hx hb dX7_forehand_80 ?_
        obtain ⟨h8, hf⟩ := pq_rdx hf
        refine pq_iald C hh 1 rfl h8 dX7_forehand_81 (fun v9 e10 => ?_)
        have hf := hf v9 e10
        refine lv_iconst (v := (2 : Int32)) hx hb dX7_forehand_82 (by decide) ?_
        refine lv_ishr hx hb dX7_forehand_83 ?_
        refine lv_aload_n hx hb dX7_forehand_84 rfl (lv_at hl 1 rfl) ?_
        refine pq_get C hh i7 0 6 rfl rfl 3 (by decide) kf17 rfl rfl dX7_forehand_85 ?_
        refine lv_iload_n hx hb dX7_forehand_88 rfl (lv_at hl 2 rfl) ?_
        refine lv_bipush (v := (15 : Int32)) hx hb dX7_forehand_89 (by decide) ?_
        refine lv_iadd hx hb dX7_forehand_91 ?_
        obtain ⟨h11, hf⟩ := pq_rdx hf
        refine pq_iald C hh 1 rfl h11 dX7_forehand_92 (fun v12 e13 => ?_)
        have hf := hf v12 e13
        obtain ⟨r14, hu15, hf⟩ := pq_clx hf
        refine pq_cvI (n := 2) (As := [.int (v9 >>> ((2 : Int32) &&& 31)), .int v12]) C hh (qX7_times l D cI cL th ad c_told v6 c_sumE c_stepY c_odd c_even c_taped c_outs c_isFound (v9 >>> ((2 : Int32) &&& 31)) v12 r14 hu15) (gvX7_times hs (pq_m17 _ (List.mem_of_getElem? (i := 11) rfl))) rfl (by decide +kernel) ⟨Nat.le_of_ble_eq_true rfl, Nat.le_of_ble_eq_true rfl⟩ 0 6 rfl rfl rfl hl.1 rfl rfl (Nat.le_of_ble_eq_true rfl) dX7_forehand_93 ⟨Nat.zero_le _, Nat.zero_le _⟩ [0] [1] [1, 0] rfl rfl (by decide) (by decide) (by decide) rfl (fun H locs (hh : pq_H D A s (wX7_forehand cI th ad c_told v6 c_sumE c_stepY c_odd c_even c_taped c_outs c_isFound f_g) H locs) => ?_)
        refine lv_iadd hx hb dX7_forehand_96 ?_
        refine lv_aload_n hx hb dX7_forehand_97 rfl (lv_at hl 1 rfl) ?_
        refine lv_aload_n hx hb dX7_forehand_98 rfl (lv_at hl 1 rfl) ?_
        refine pq_get C hh i7 0 6 rfl rfl 3 (by decide) kf17 rfl rfl dX7_forehand_99 ?_
        refine lv_iload_n hx hb dX7_forehand_102 rfl (lv_at hl 2 rfl) ?_
        refine lv_bipush (v := (6 : Int32)) hx hb dX7_forehand_103 (by decide) ?_
        refine lv_iadd hx hb dX7_forehand_105 ?_
        obtain ⟨h16, hf⟩ := pq_rdx hf
        refine pq_iald C hh 1 rfl h16 dX7_forehand_106 (fun v17 e18 => ?_)
        have hf := hf v17 e18
        refine lv_iconst (v := (2 : Int32)) hx hb dX7_forehand_107 (by decide) ?_
        refine lv_ishr hx hb dX7_forehand_108 ?_
        refine lv_aload_n hx hb dX7_forehand_109 rfl (lv_at hl 1 rfl) ?_
        refine pq_get C hh i7 0 6 rfl rfl 3 (by decide) kf17 rfl rfl dX7_forehand_110 ?_
        refine lv_iload_n hx hb dX7_forehand_113 rfl (lv_at hl 2 rfl) ?_
        refine lv_bipush (v := (14 : Int32)) hx hb dX7_forehand_114 (by decide) ?_
        refine lv_iadd hx hb dX7_forehand_116 ?_
        obtain ⟨h19, hf⟩ := pq_rdx hf
        refine pq_iald C hh 1 rfl h19 dX7_forehand_117 (fun v20 e21 => ?_)
        have hf := hf v20 e21
        obtain ⟨r22, hu23, hf⟩ := pq_clx hf
        refine pq_cvI (n := 2) (As := [.int (v17 >>> ((2 : Int32) &&& 31)), .int v20]) C hh (qX7_times l D cI cL th ad c_told v6 c_sumE c_stepY c_odd c_even c_taped c_outs c_isFound (v17 >>> ((2 : Int32) &&& 31)) v20 r22 hu23) (gvX7_times hs (pq_m17 _ (List.mem_of_getElem? (i := 11) rfl))) rfl (by decide +kernel) ⟨Nat.le_of_ble_eq_true rfl, Nat.le_of_ble_eq_true rfl⟩ 0 6 rfl rfl rfl hl.1 rfl rfl (Nat.le_of_ble_eq_true rfl) dX7_forehand_118 ⟨Nat.zero_le _, Nat.zero_le _⟩ [0] [1] [1, 0] rfl rfl (by decide) (by decide) (by decide) rfl (fun H locs (hh : pq_H D A s (wX7_forehand cI th ad c_told v6 c_sumE c_stepY c_odd c_even c_taped c_outs c_isFound f_g) H locs) => ?_)
        refine lv_iadd hx hb dX7_forehand_121 ?_
        obtain ⟨r24, hu25, hf⟩ := pq_clx hf
        refine pq_cvI (n := 1) (As := [.int ((r4 + r14) + r22)]) C hh (qX7_wrapped l D cI cL th ((r4 + r14) + r22) r24 hu25) (gvX7_wrapped hs (pq_m17 _ (List.mem_of_getElem? (i := 19) rfl))) rfl (by decide +kernel) ⟨Nat.le_of_ble_eq_true rfl, Nat.le_of_ble_eq_true rfl⟩ 0 6 rfl rfl rfl hl.1 rfl rfl (Nat.le_of_ble_eq_true rfl) dX7_forehand_122 ⟨Nat.zero_le _, Nat.zero_le _⟩ [] [0, 1] [0, 1] rfl rfl (by decide) (by decide) (by decide) rfl (fun H locs (hh : pq_H D A s (wX7_forehand cI th ad c_told v6 c_sumE c_stepY c_odd c_even c_taped c_outs c_isFound f_g) H locs) => ?_)
        refine lv_iconst (v := (1 : Int32)) hx hb dX7_forehand_125 (by decide) ?_
        refine lv_ishr hx hb dX7_forehand_126 ?_
        refine lv_topi (fun v26 e27 => ?_)
        have hf := pq_nmx hf v26 e27
        refine pq_put (ty := .int) (v := .int v26) C hh i7 tyX7 tyX7_ok nmX7 0 6 rfl rfl 21 (by decide) kf146 rfl rfl (by decide +kernel) rfl rfl (Nat.le_of_ble_eq_true rfl) dX7_forehand_127 (fun H locs (hh : pq_H D A s (wX7_forehand cI th ad c_told v6 v26 c_stepY c_odd c_even c_taped c_outs c_isFound f_g) H locs) => ?_)
        refine lv_aload_n hx hb dX7_forehand_130 rfl (lv_at hl 1 rfl) ?_
        refine pq_get C hh i7 0 6 rfl rfl 3 (by decide) kf17 rfl rfl dX7_forehand_131 ?_
        refine lv_iload_n hx hb dX7_forehand_134 rfl (lv_at hl 2 rfl) ?_
        obtain ⟨h28, hf⟩ := pq_rdx hf
        refine pq_iald C hh 1 rfl h28 dX7_forehand_135 (fun v29 e30 => ?_)
        have hf := hf v29 e30
        refine lv_bipush (v := (6 : Int32)) hx hb dX7_forehand_136 (by decide) ?_
        refine lv_ishr hx hb dX7_forehand_138 ?_
        refine lv_topi (fun v31 e32 => ?_)
        have hf := pq_nmx hf v31 e32
        refine lv_istore (lv' := [(4, .int v31), (3, .int r4), (0, .ref th), (2, .int x2)]) hx hb dX7_forehand_139 hl (by decide) rfl (fun ls hl => ?_)
        refine lv_aload_n hx hb dX7_forehand_141 rfl (lv_at hl 2 rfl) ?_
        refine pq_get C hh i7 0 6 rfl rfl 3 (by decide) kf17 rfl rfl dX7_forehand_142 ?_
        refine lv_iload_n hx hb dX7_forehand_145 rfl (lv_at hl 3 rfl) ?_
        refine lv_iconst (v := (1 : Int32)) hx hb dX7_forehand_146 (by decide) ?_
        refine lv_iadd hx hb dX7_forehand_147 ?_
        obtain ⟨h33, hf⟩ := pq_rdx hf
        refine pq_iald C hh 1 rfl h33 dX7_forehand_148 (fun v34 e35 => ?_)
        have hf := hf v34 e35
        refine lv_iload hx hb dX7_forehand_149 (lv_at hl 0 rfl) ?_
        refine lv_isub hx hb dX7_forehand_151 ?_
        refine lv_topi (fun v36 e37 => ?_)
        have hf := pq_nmx hf v36 e37
        refine lv_istore (lv' := [(5, .int v36), (4, .int v31), (3, .int r4), (0, .ref th), (2, .int x2)]) hx hb dX7_forehand_152 hl (by decide) rfl (fun ls hl => ?_)
        refine lv_aload_n hx hb dX7_forehand_154 rfl (lv_at hl 3 rfl) ?_
        refine pq_get C hh i7 0 6 rfl rfl 3 (by decide) kf17 rfl rfl dX7_forehand_155 ?_
        refine lv_iload_n hx hb dX7_forehand_158 rfl (lv_at hl 4 rfl) ?_
        refine lv_iconst (v := (4 : Int32)) hx hb dX7_forehand_159 (by decide) ?_
        refine lv_iadd hx hb dX7_forehand_160 ?_
        obtain ⟨h38, hf⟩ := pq_rdx hf
        refine pq_iald C hh 1 rfl h38 dX7_forehand_161 (fun v39 e40 => ?_)
        have hf := hf v39 e40
        refine lv_iconst (v := (2 : Int32)) hx hb dX7_forehand_162 (by decide) ?_
        refine lv_ishr hx hb dX7_forehand_163 ?_
        refine lv_topi (fun v41 e42 => ?_)
        have hf := pq_nmx hf v41 e42
        refine lv_istore (lv' := [(6, .int v41), (5, .int v36), (4, .int v31), (3, .int r4), (0, .ref th), (2, .int x2)]) hx hb dX7_forehand_164 hl (by decide) rfl (fun ls hl => ?_)
        refine lv_aload_n hx hb dX7_forehand_166 rfl (lv_at hl 4 rfl) ?_
        refine lv_iload hx hb dX7_forehand_167 (lv_at hl 2 rfl) ?_
        refine pq_put (ty := .int) (v := .int v31) C hh i7 tyX7 tyX7_ok nmX7 0 6 rfl rfl 22 (by decide) kf149 rfl rfl (by decide +kernel) rfl rfl (Nat.le_of_ble_eq_true rfl) dX7_forehand_169 (fun H locs (hh : pq_H D A s (wX7_forehand cI th ad c_told v6 v26 v31 c_odd c_even c_taped c_outs c_isFound f_g) H locs) => ?_)
        refine lv_aload_n hx hb dX7_forehand_172 rfl (lv_at hl 4 rfl) ?_
        refine pq_get C hh i7 0 6 rfl rfl 3 (by decide) kf17 rfl rfl dX7_forehand_173 ?_
        refine lv_iload_n hx hb dX7_forehand_176 rfl (lv_at hl 5 rfl) ?_
        refine lv_iconst (v := (4 : Int32)) hx hb dX7_forehand_177 (by decide) ?_
        refine lv_iadd hx hb dX7_forehand_178 ?_
        obtain ⟨h43, hf⟩ := pq_rdx hf
        refine pq_iald C hh 1 rfl h43 dX7_forehand_179 (fun v44 e45 => ?_)
        have hf := hf v44 e45
        refine lv_sipush (v := (256 : Int32)) hx hb dX7_forehand_180 (by decide) ?_
        refine lv_icmp_lt (tgt := 201) hx hb dX7_forehand_183 (by decide) (fun h46 => ?_) (fun h46 => ?_)
        · have hf := pq_brt hf h46
          refine lv_iload hx hb dX7_forehand_201 (lv_at hl 1 rfl) ?_
          refine lv_if_le (tgt := 224) hx hb dX7_forehand_203 (by decide) (fun h47 => ?_) (fun h47 => ?_)
          · have hf := pq_brt hf h47
            refine lv_iload hx hb dX7_forehand_224 (lv_at hl 1 rfl) ?_
            refine lv_if_ge (tgt := 247) hx hb dX7_forehand_226 (by decide) (fun h48 => ?_) (fun h48 => ?_)
            · have hf := pq_brt hf h48
              obtain rfl := Option.some.inj hf
              exact hret _ _ _ ls hh dX7_forehand_247
            · have hf := pq_brf hf h48
              refine lv_aload_n hx hb dX7_forehand_229 rfl (lv_at hl 4 rfl) ?_
              refine lv_iload hx hb dX7_forehand_230 (lv_at hl 2 rfl) ?_
              refine lv_iload hx hb dX7_forehand_232 (lv_at hl 1 rfl) ?_
              refine lv_iload hx hb dX7_forehand_234 (lv_at hl 0 rfl) ?_
              refine lv_imul hx hb dX7_forehand_236 ?_
              refine lv_bipush (v := (63 : Int32)) hx hb dX7_forehand_237 (by decide) ?_
              refine lv_iadd hx hb dX7_forehand_239 ?_
              refine lv_bipush (v := (6 : Int32)) hx hb dX7_forehand_240 (by decide) ?_
              refine lv_ishr hx hb dX7_forehand_242 ?_
              refine lv_iadd hx hb dX7_forehand_243 ?_
              refine lv_topi (fun v49 e50 => ?_)
              have hf := pq_nmx hf v49 e50
              refine pq_put (ty := .int) (v := .int v49) C hh i7 tyX7 tyX7_ok nmX7 0 6 rfl rfl 22 (by decide) kf149 rfl rfl (by decide +kernel) rfl rfl (Nat.le_of_ble_eq_true rfl) dX7_forehand_244 (fun H locs (hh : pq_H D A s (wX7_forehand cI th ad c_told v6 v26 v49 c_odd c_even c_taped c_outs c_isFound f_g) H locs) => ?_)
              obtain rfl := Option.some.inj hf
              exact hret _ _ _ ls hh dX7_forehand_247
          · have hf := pq_brf hf h47
            refine lv_aload_n hx hb dX7_forehand_206 rfl (lv_at hl 4 rfl) ?_
            refine lv_iload hx hb dX7_forehand_207 (lv_at hl 2 rfl) ?_
            refine lv_iload hx hb dX7_forehand_209 (lv_at hl 1 rfl) ?_
            refine lv_iload hx hb dX7_forehand_211 (lv_at hl 0 rfl) ?_
            refine lv_imul hx hb dX7_forehand_213 ?_
            refine lv_bipush (v := (6 : Int32)) hx hb dX7_forehand_214 (by decide) ?_
            refine lv_ishr hx hb dX7_forehand_216 ?_
            refine lv_iadd hx hb dX7_forehand_217 ?_
            refine lv_topi (fun v51 e52 => ?_)
            have hf := pq_nmx hf v51 e52
            refine pq_put (ty := .int) (v := .int v51) C hh i7 tyX7 tyX7_ok nmX7 0 6 rfl rfl 22 (by decide) kf149 rfl rfl (by decide +kernel) rfl rfl (Nat.le_of_ble_eq_true rfl) dX7_forehand_218 (fun H locs (hh : pq_H D A s (wX7_forehand cI th ad c_told v6 v26 v51 c_odd c_even c_taped c_outs c_isFound f_g) H locs) => ?_)
            refine lv_goto (tgt := 247) hx hb dX7_forehand_221 (by decide) ?_
            obtain rfl := Option.some.inj hf
            exact hret _ _ _ ls hh dX7_forehand_247
        · have hf := pq_brf hf h46
          refine lv_aload_n hx hb dX7_forehand_186 rfl (lv_at hl 4 rfl) ?_
          refine lv_aload_n hx hb dX7_forehand_187 rfl (lv_at hl 4 rfl) ?_
          refine pq_get C hh i7 0 6 rfl rfl 3 (by decide) kf17 rfl rfl dX7_forehand_188 ?_
          refine lv_iload_n hx hb dX7_forehand_191 rfl (lv_at hl 5 rfl) ?_
          refine lv_iconst (v := (1 : Int32)) hx hb dX7_forehand_192 (by decide) ?_
          refine lv_iadd hx hb dX7_forehand_193 ?_
          obtain ⟨h53, hf⟩ := pq_rdx hf
          refine pq_iald C hh 1 rfl h53 dX7_forehand_194 (fun v54 e55 => ?_)
          have hf := hf v54 e55
          refine pq_put (ty := .int) (v := .int v54) C hh i7 tyX7 tyX7_ok nmX7 0 6 rfl rfl 22 (by decide) kf149 rfl rfl (by decide +kernel) rfl rfl (Nat.le_of_ble_eq_true rfl) dX7_forehand_195 (fun H locs (hh : pq_H D A s (wX7_forehand cI th ad c_told v6 v26 v54 c_odd c_even c_taped c_outs c_isFound f_g) H locs) => ?_)
          refine lv_goto (tgt := 247) hx hb dX7_forehand_198 (by decide) ?_
          obtain rfl := Option.some.inj hf
          exact hret _ _ _ ls hh dX7_forehand_247
      · have hf := pq_brf hf h3
        refine lv_iload_n hx hb dX7_forehand_17 rfl (lv_at hl 2 rfl) ?_
        refine lv_aload_n hx hb dX7_forehand_18 rfl (lv_at hl 0 rfl) ?_
        refine lv_aload_n hx hb dX7_forehand_19 rfl (lv_at hl 0 rfl) ?_
        refine pq_get C hh i7 0 6 rfl rfl 3 (by decide) kf17 rfl rfl dX7_forehand_20 ?_
        refine lv_iload_n hx hb dX7_forehand_23 rfl (lv_at hl 1 rfl) ?_
        refine lv_bipush (v := (8 : Int32)) hx hb dX7_forehand_24 (by decide) ?_
        refine lv_iadd hx hb dX7_forehand_26 ?_
        refine lv_iload hx hb dX7_forehand_27 (lv_at hl 3 rfl) ?_
        refine lv_iadd hx hb dX7_forehand_29 ?_
        obtain ⟨h56, hf⟩ := pq_rdx hf
        refine pq_iald C hh 1 rfl h56 dX7_forehand_30 (fun v57 e58 => ?_)
        have hf := hf v57 e58
        refine lv_iconst (v := (2 : Int32)) hx hb dX7_forehand_31 (by decide) ?_
        refine lv_ishr hx hb dX7_forehand_32 ?_
        refine lv_aload_n hx hb dX7_forehand_33 rfl (lv_at hl 0 rfl) ?_
        refine pq_get C hh i7 0 6 rfl rfl 3 (by decide) kf17 rfl rfl dX7_forehand_34 ?_
        refine lv_iload_n hx hb dX7_forehand_37 rfl (lv_at hl 1 rfl) ?_
        refine lv_bipush (v := (16 : Int32)) hx hb dX7_forehand_38 (by decide) ?_
        refine lv_iadd hx hb dX7_forehand_40 ?_
        refine lv_iload hx hb dX7_forehand_41 (lv_at hl 3 rfl) ?_
        refine lv_iadd hx hb dX7_forehand_43 ?_
        obtain ⟨h59, hf⟩ := pq_rdx hf
        refine pq_iald C hh 1 rfl h59 dX7_forehand_44 (fun v60 e61 => ?_)
        have hf := hf v60 e61
        obtain ⟨r62, hu63, hf⟩ := pq_clx hf
        refine pq_cvI (n := 2) (As := [.int (v57 >>> ((2 : Int32) &&& 31)), .int v60]) C hh (qX7_times l D cI cL th ad c_told c_sumZ c_sumE c_stepY c_odd c_even c_taped c_outs c_isFound (v57 >>> ((2 : Int32) &&& 31)) v60 r62 hu63) (gvX7_times hs (pq_m17 _ (List.mem_of_getElem? (i := 11) rfl))) rfl (by decide +kernel) ⟨Nat.le_of_ble_eq_true rfl, Nat.le_of_ble_eq_true rfl⟩ 0 6 rfl rfl rfl hl.1 rfl rfl (Nat.le_of_ble_eq_true rfl) dX7_forehand_45 ⟨Nat.zero_le _, Nat.zero_le _⟩ [0] [1] [1, 0] rfl rfl (by decide) (by decide) (by decide) rfl (fun H locs (hh : pq_H D A s (wX7_forehand cI th ad c_told c_sumZ c_sumE c_stepY c_odd c_even c_taped c_outs c_isFound f_g) H locs) => ?_)
        refine lv_iadd hx hb dX7_forehand_48 ?_
        refine lv_topi (fun v64 e65 => ?_)
        have hf := pq_nmx hf v64 e65
        refine lv_istore_n (lv' := [(3, .int v64), (0, .ref th), (2, .int x2), (4, .int x4)]) hx hb dX7_forehand_49 rfl hl (by decide) rfl (fun ls hl => ?_)
        obtain ⟨v66, e67⟩ : ∃ y : Int32, y = x4 + (1 : Int32) := ⟨_, rfl⟩
        refine lv_iinc (v := v66) (lv' := [(4, .int v66), (3, .int v64), (0, .ref th), (2, .int x2)]) hx hb dX7_forehand_50 hl (k := 3) rfl (by rw [e67]; rfl) (by decide) rfl (fun ls hl => ?_)
        have hf := pq_nmx hf v66 e67
        refine lv_goto (tgt := 10) hx hb dX7_forehand_53 (by decide) ?_
        exact ih10 x2 v64 v66 c_sumZ c_sumE c_stepY _ _ hh ls (lv_sub hl [2, 3, 1, 0] rfl) hf
  rw [fX7_forehand] at hf
  refine lv_bipush (v := (24 : Int32)) hx hb dX7_forehand_0 (by decide) ?_
  refine lv_iload_n hx hb dX7_forehand_2 rfl (lv_at hl 1 rfl) ?_
  refine lv_imul hx hb dX7_forehand_3 ?_
  refine lv_topi (fun v1 e2 => ?_)
  have hf := pq_nmx hf v1 e2
  refine lv_istore_n (lv' := [(2, .int v1), (0, .ref th), (1, .int a1)]) hx hb dX7_forehand_4 rfl hl (by decide) rfl (fun ls hl => ?_)
  refine lv_iconst (v := (0 : Int32)) hx hb dX7_forehand_5 (by decide) ?_
  refine lv_istore_n (lv' := [(3, .int (0 : Int32)), (2, .int v1), (0, .ref th), (1, .int a1)]) hx hb dX7_forehand_6 rfl hl (by decide) rfl (fun ls hl => ?_)
  refine lv_iconst (v := (0 : Int32)) hx hb dX7_forehand_7 (by decide) ?_
  refine lv_istore (lv' := [(4, .int (0 : Int32)), (3, .int (0 : Int32)), (2, .int v1), (0, .ref th), (1, .int a1)]) hx hb dX7_forehand_8 hl (by decide) rfl (fun ls hl => ?_)
  exact J10 1100 v1 (0 : Int32) (0 : Int32) c_sumZ c_sumE c_stepY _ _ hh ls (lv_sub hl [3, 2, 1, 0] rfl) hf
set_option maxHeartbeats 4000000 in
set_option maxRecDepth 100000 in
theorem qX7_adapts (l : Launch) (D : va_G) (cI cL : ClassId) (th : Nat) (ad : Nat → Nat) (c_told : Int32) (c_sumZ : Int32) (c_sumE : Int32) (c_stepY : Int32) (c_odd : Int32) (c_even : Int32) (c_taped : Int32) (c_outs : Int32) (c_isFound : Int32) (f_g : Nat → Int32) (a1 : Int32) (a2 : Int32) (a3 : Int32) (res : Int32 × (Nat → Int32)) (hf : fX7_adapts a1 a2 a3 f_g = some res) : pq_CI l yX7_adapts qsX7_adapts 1 23 D cI cL [.ref th, .int a1, .int a2, .int a3] (wX7_adapts cI th ad c_told c_sumZ c_sumE c_stepY c_odd c_even c_taped c_outs c_isFound f_g) (wX7_adapts cI th ad c_told c_sumZ c_sumE c_stepY c_odd c_even c_taped c_outs c_isFound res.2) res.1 := by
  refine pq_mkI (cc := cX7_adapts) (maxL := 10) (RT := .int) (by decide) rfl (Nat.le_of_ble_eq_true rfl) ?_
  intro p e s m args below meth c Q A C hh hret ls hl
  have hx := C.1
  have hb := C.2.1
  have hml := C.2.2.1
  have hown : s.vm.findClass RX7 = some m.cls := C.2.2.2.1
  have hs : ∀ w ∈ wsL_law, w ∈ qsX7_adapts := fun _ h => List.mem_cons_of_mem _ h
  have htw : ∀ w ∈ wsL_law, w.before args s = true := fun w h => C.2.2.2.2.1 w (hs w h)
  have hl : lv_has ls 10 [(0, .ref th), (1, .int a1), (2, .int a2), (3, .int a3)] := hl
  have i7 : ∀ w ∈ wsX70, w ∈ qsX7_adapts := fun w h => hs w (pq_i7 w h)
  have kf17 := htw (.fieldLink RX7 17 "VoiceDeskModel" "g" "[I") (pq_m3 _ (List.mem_of_getElem? (i := 23) rfl))
  have J258 : ∀ (x1 : Int32) (x4 : Int32) (x5 : Int32) (f_g : Nat → Int32) (H : Heap) (locs : List Loc), pq_H D A s (wX7_adapts cI th ad c_told c_sumZ c_sumE c_stepY c_odd c_even c_taped c_outs c_isFound f_g) H locs → ∀ ls : Array Slot, lv_has ls 10 [(0, .ref th), (1, .int x1), (4, .int x4), (5, .int x5)] → fX7_adapts_b258   x1 x4 x5 f_g = some res → W p l e (pq_rm 1 23) s m args below meth c H locs 0 0 Q (F0 m 258 ls []) := by
    intro x1 x4 x5 f_g H locs hh ls hl hf
    rw [fX7_adapts_b258] at hf
    refine lv_aload_n hx hb dX7_adapts_258 rfl (lv_at hl 0 rfl) ?_
    refine pq_get C hh i7 0 6 rfl rfl 3 (by decide) kf17 rfl rfl dX7_adapts_259 ?_
    refine lv_iload_n hx hb dX7_adapts_262 rfl (lv_at hl 1 rfl) ?_
    refine lv_bipush (v := (6 : Int32)) hx hb dX7_adapts_263 (by decide) ?_
    refine lv_iadd hx hb dX7_adapts_265 ?_
    refine lv_aload_n hx hb dX7_adapts_266 rfl (lv_at hl 0 rfl) ?_
    refine lv_iload hx hb dX7_adapts_267 (lv_at hl 2 rfl) ?_
    refine lv_iload hx hb dX7_adapts_269 (lv_at hl 3 rfl) ?_
    refine lv_sipush (v := (15360 : Int32)) hx hb dX7_adapts_271 (by decide) ?_
    refine lv_isub hx hb dX7_adapts_274 ?_
    refine lv_sipush (v := (15360 : Int32)) hx hb dX7_adapts_275 (by decide) ?_
    refine lv_iload hx hb dX7_adapts_278 (lv_at hl 3 rfl) ?_
    refine lv_isub hx hb dX7_adapts_280 ?_
    obtain ⟨r40, hu41, hf⟩ := pq_clx hf
    refine pq_cvI (n := 3) (As := [.int x4, .int (x5 - (15360 : Int32)), .int ((15360 : Int32) - x5)]) C hh (qX7_cut l D cI cL th x4 (x5 - (15360 : Int32)) ((15360 : Int32) - x5) r40 hu41) (gvX7_cut hs (pq_m18 _ (List.mem_of_getElem? (i := 19) rfl))) rfl (by decide +kernel) ⟨Nat.le_of_ble_eq_true rfl, Nat.le_of_ble_eq_true rfl⟩ 0 6 rfl rfl rfl hl.1 rfl rfl (Nat.le_of_ble_eq_true rfl) dX7_adapts_281 ⟨Nat.zero_le _, Nat.zero_le _⟩ [] [0, 1] [0, 1] rfl rfl (by decide) (by decide) (by decide) rfl (fun H locs (hh : pq_H D A s (wX7_adapts cI th ad c_told c_sumZ c_sumE c_stepY c_odd c_even c_taped c_outs c_isFound f_g) H locs) => ?_)
    obtain ⟨h42, hf⟩ := pq_wrx hf
    refine pq_iast C hh 1 rfl h42 dX7_adapts_284 (fun H locs f43 e44 (hh : pq_H D A s (wX7_adapts cI th ad c_told c_sumZ c_sumE c_stepY c_odd c_even c_taped c_outs c_isFound f43) H locs) => ?_)
    have hf := hf f43 e44
    refine lv_iload hx hb dX7_adapts_285 (lv_at hl 3 rfl) ?_
    obtain rfl := Option.some.inj hf
    exact hret _ _ _ ls hh dX7_adapts_287 rfl
  have J256 : ∀ (x1 : Int32) (x5 : Int32) (s0 : Int32) (f_g : Nat → Int32) (H : Heap) (locs : List Loc), pq_H D A s (wX7_adapts cI th ad c_told c_sumZ c_sumE c_stepY c_odd c_even c_taped c_outs c_isFound f_g) H locs → ∀ ls : Array Slot, lv_has ls 10 [(0, .ref th), (1, .int x1), (5, .int x5)] → fX7_adapts_b256   x1 x5 s0 f_g = some res → W p l e (pq_rm 1 23) s m args below meth c H locs 0 0 Q (F0 m 256 ls [.int s0]) := by
    intro x1 x5 s0 f_g H locs hh ls hl hf
    rw [fX7_adapts_b256] at hf
    refine lv_istore (lv' := [(4, .int s0), (0, .ref th), (1, .int x1), (5, .int x5)]) hx hb dX7_adapts_256 hl (by decide) rfl (fun ls hl => ?_)
    exact J258 x1 s0 x5 f_g _ _ hh ls (lv_sub hl [1, 2, 0, 3] rfl) hf
  have J203 : ∀ (x1 : Int32) (x2 : Int32) (x3 : Int32) (x4 : Int32) (x5 : Int32) (f_g : Nat → Int32) (H : Heap) (locs : List Loc), pq_H D A s (wX7_adapts cI th ad c_told c_sumZ c_sumE c_stepY c_odd c_even c_taped c_outs c_isFound f_g) H locs → ∀ ls : Array Slot, lv_has ls 10 [(0, .ref th), (1, .int x1), (2, .int x2), (3, .int x3), (4, .int x4), (5, .int x5)] → fX7_adapts_b203   x1 x2 x3 x4 x5 f_g = some res → W p l e (pq_rm 1 23) s m args below meth c H locs 0 0 Q (F0 m 203 ls []) := by
    intro x1 x2 x3 x4 x5 f_g H locs hh ls hl hf
    rw [fX7_adapts_b203] at hf
    refine lv_aload_n hx hb dX7_adapts_203 rfl (lv_at hl 0 rfl) ?_
    refine pq_get C hh i7 0 6 rfl rfl 3 (by decide) kf17 rfl rfl dX7_adapts_204 ?_
    refine lv_iload_n hx hb dX7_adapts_207 rfl (lv_at hl 1 rfl) ?_
    refine lv_bipush (v := (7 : Int32)) hx hb dX7_adapts_208 (by decide) ?_
    refine lv_iadd hx hb dX7_adapts_210 ?_
    refine lv_iload hx hb dX7_adapts_211 (lv_at hl 5 rfl) ?_
    obtain ⟨h30, hf⟩ := pq_wrx hf
    refine pq_iast C hh 1 rfl h30 dX7_adapts_213 (fun H locs f31 e32 (hh : pq_H D A s (wX7_adapts cI th ad c_told c_sumZ c_sumE c_stepY c_odd c_even c_taped c_outs c_isFound f31) H locs) => ?_)
    have hf := hf f31 e32
    refine lv_iload hx hb dX7_adapts_214 (lv_at hl 4 rfl) ?_
    refine lv_iload hx hb dX7_adapts_216 (lv_at hl 4 rfl) ?_
    refine lv_bipush (v := (8 : Int32)) hx hb dX7_adapts_218 (by decide) ?_
    refine lv_ishr hx hb dX7_adapts_220 ?_
    refine lv_isub hx hb dX7_adapts_221 ?_
    refine lv_topi (fun v33 e34 => ?_)
    have hf := pq_nmx hf v33 e34
    refine lv_istore (lv' := [(4, .int v33), (0, .ref th), (1, .int x1), (2, .int x2), (3, .int x3), (5, .int x5)]) hx hb dX7_adapts_222 hl (by decide) rfl (fun ls hl => ?_)
    refine lv_iload_n hx hb dX7_adapts_224 rfl (lv_at hl 4 rfl) ?_
    refine lv_if_eq (tgt := 258) hx hb dX7_adapts_225 (by decide) (fun h35 => ?_) (fun h35 => ?_)
    · have hf := pq_brt hf h35
      exact J258 x1 v33 x5 f31 _ _ hh ls (lv_sub hl [1, 2, 0, 5] rfl) hf
    · have hf := pq_brf hf h35
      refine lv_iload_n hx hb dX7_adapts_228 rfl (lv_at hl 3 rfl) ?_
      refine lv_aload_n hx hb dX7_adapts_229 rfl (lv_at hl 1 rfl) ?_
      refine pq_get C hh i7 0 6 rfl rfl 3 (by decide) kf17 rfl rfl dX7_adapts_230 ?_
      refine lv_iload_n hx hb dX7_adapts_233 rfl (lv_at hl 2 rfl) ?_
      refine lv_bipush (v := (22 : Int32)) hx hb dX7_adapts_234 (by decide) ?_
      refine lv_iadd hx hb dX7_adapts_236 ?_
      obtain ⟨h36, hf⟩ := pq_rdx hf
      refine pq_iald C hh 1 rfl h36 dX7_adapts_237 (fun v37 e38 => ?_)
      have hf := hf v37 e38
      refine lv_icmp_ne (tgt := 250) hx hb dX7_adapts_238 (by decide) (fun h39 => ?_) (fun h39 => ?_)
      · have hf := pq_brf hf h39
        refine lv_iload hx hb dX7_adapts_250 (lv_at hl 0 rfl) ?_
        refine lv_sipush (v := (192 : Int32)) hx hb dX7_adapts_252 (by decide) ?_
        refine lv_isub hx hb dX7_adapts_255 ?_
        exact J256 x1 x5 (v33 - (192 : Int32)) f31 _ _ hh ls (lv_sub hl [1, 2, 5] rfl) hf
      · have hf := pq_brt hf h39
        refine lv_iload hx hb dX7_adapts_241 (lv_at hl 0 rfl) ?_
        refine lv_sipush (v := (192 : Int32)) hx hb dX7_adapts_243 (by decide) ?_
        refine lv_iadd hx hb dX7_adapts_246 ?_
        refine lv_goto (tgt := 256) hx hb dX7_adapts_247 (by decide) ?_
        exact J256 x1 x5 (v33 + (192 : Int32)) f31 _ _ hh ls (lv_sub hl [1, 2, 5] rfl) hf
  have J201 : ∀ (x1 : Int32) (x2 : Int32) (x3 : Int32) (x4 : Int32) (s0 : Int32) (f_g : Nat → Int32) (H : Heap) (locs : List Loc), pq_H D A s (wX7_adapts cI th ad c_told c_sumZ c_sumE c_stepY c_odd c_even c_taped c_outs c_isFound f_g) H locs → ∀ ls : Array Slot, lv_has ls 10 [(0, .ref th), (1, .int x1), (2, .int x2), (3, .int x3), (4, .int x4)] → fX7_adapts_b201   x1 x2 x3 x4 s0 f_g = some res → W p l e (pq_rm 1 23) s m args below meth c H locs 0 0 Q (F0 m 201 ls [.int s0]) := by
    intro x1 x2 x3 x4 s0 f_g H locs hh ls hl hf
    rw [fX7_adapts_b201] at hf
    refine lv_istore (lv' := [(5, .int s0), (0, .ref th), (1, .int x1), (2, .int x2), (3, .int x3), (4, .int x4)]) hx hb dX7_adapts_201 hl (by decide) rfl (fun ls hl => ?_)
    exact J203 x1 x2 x3 x4 s0 f_g _ _ hh ls (lv_sub hl [1, 2, 3, 4, 5, 0] rfl) hf
  have J149 : ∀ (x1 : Int32) (x2 : Int32) (x3 : Int32) (x4 : Int32) (x5 : Int32) (x7 : Int32) (x8 : Int32) (s0 : Int32) (f_g : Nat → Int32) (H : Heap) (locs : List Loc), pq_H D A s (wX7_adapts cI th ad c_told c_sumZ c_sumE c_stepY c_odd c_even c_taped c_outs c_isFound f_g) H locs → ∀ ls : Array Slot, lv_has ls 10 [(0, .ref th), (1, .int x1), (2, .int x2), (3, .int x3), (4, .int x4), (5, .int x5), (7, .int x7), (8, .int x8)] → fX7_adapts_b149   x1 x2 x3 x4 x5 x7 x8 s0 f_g = some res → W p l e (pq_rm 1 23) s m args below meth c H locs 0 0 Q (F0 m 149 ls [.int s0]) := by
    intro x1 x2 x3 x4 x5 x7 x8 s0 f_g H locs hh ls hl hf
    rw [fX7_adapts_b149] at hf
    refine lv_istore (lv' := [(9, .int s0), (0, .ref th), (1, .int x1), (2, .int x2), (3, .int x3), (4, .int x4), (5, .int x5), (7, .int x7), (8, .int x8)]) hx hb dX7_adapts_149 hl (by decide) rfl (fun ls hl => ?_)
    refine lv_iload hx hb dX7_adapts_151 (lv_at hl 6 rfl) ?_
    refine lv_iload hx hb dX7_adapts_153 (lv_at hl 8 rfl) ?_
    refine lv_icmp_gt (tgt := 166) hx hb dX7_adapts_155 (by decide) (fun h27 => ?_) (fun h27 => ?_)
    · have hf := pq_brt hf h27
      refine lv_iload hx hb dX7_adapts_166 (lv_at hl 6 rfl) ?_
      refine lv_iload hx hb dX7_adapts_168 (lv_at hl 0 rfl) ?_
      refine lv_icmp_lt (tgt := 181) hx hb dX7_adapts_170 (by decide) (fun h28 => ?_) (fun h28 => ?_)
      · have hf := pq_brt hf h28
        refine lv_iload hx hb dX7_adapts_181 (lv_at hl 7 rfl) ?_
        refine lv_if_eq (tgt := 195) hx hb dX7_adapts_183 (by decide) (fun h29 => ?_) (fun h29 => ?_)
        · have hf := pq_brt hf h29
          refine lv_iload hx hb dX7_adapts_195 (lv_at hl 6 rfl) ?_
          refine lv_sipush (v := (128 : Int32)) hx hb dX7_adapts_197 (by decide) ?_
          refine lv_isub hx hb dX7_adapts_200 ?_
          exact J201 x1 x2 x3 x4 (x5 - (128 : Int32)) f_g _ _ hh ls (lv_sub hl [1, 2, 3, 4, 5] rfl) hf
        · have hf := pq_brf hf h29
          refine lv_iload hx hb dX7_adapts_186 (lv_at hl 6 rfl) ?_
          refine lv_sipush (v := (128 : Int32)) hx hb dX7_adapts_188 (by decide) ?_
          refine lv_iadd hx hb dX7_adapts_191 ?_
          refine lv_goto (tgt := 201) hx hb dX7_adapts_192 (by decide) ?_
          exact J201 x1 x2 x3 x4 (x5 + (128 : Int32)) f_g _ _ hh ls (lv_sub hl [1, 2, 3, 4, 5] rfl) hf
      · have hf := pq_brf hf h28
        refine lv_sipush (v := (12288 : Int32)) hx hb dX7_adapts_173 (by decide) ?_
        refine lv_istore (lv' := [(5, .int (12288 : Int32)), (9, .int s0), (0, .ref th), (1, .int x1), (2, .int x2), (3, .int x3), (4, .int x4), (7, .int x7), (8, .int x8)]) hx hb dX7_adapts_176 hl (by decide) rfl (fun ls hl => ?_)
        refine lv_goto (tgt := 203) hx hb dX7_adapts_178 (by decide) ?_
        exact J203 x1 x2 x3 x4 (12288 : Int32) f_g _ _ hh ls (lv_sub hl [2, 3, 4, 5, 6, 0] rfl) hf
    · have hf := pq_brf hf h27
      refine lv_sipush (v := (-12288 : Int32)) hx hb dX7_adapts_158 (by decide) ?_
      refine lv_istore (lv' := [(5, .int (-12288 : Int32)), (9, .int s0), (0, .ref th), (1, .int x1), (2, .int x2), (3, .int x3), (4, .int x4), (7, .int x7), (8, .int x8)]) hx hb dX7_adapts_161 hl (by decide) rfl (fun ls hl => ?_)
      refine lv_goto (tgt := 203) hx hb dX7_adapts_163 (by decide) ?_
      exact J203 x1 x2 x3 x4 (-12288 : Int32) f_g _ _ hh ls (lv_sub hl [2, 3, 4, 5, 6, 0] rfl) hf
  have J133 : ∀ (x1 : Int32) (x2 : Int32) (x3 : Int32) (x4 : Int32) (x5 : Int32) (x7 : Int32) (s0 : Int32) (f_g : Nat → Int32) (H : Heap) (locs : List Loc), pq_H D A s (wX7_adapts cI th ad c_told c_sumZ c_sumE c_stepY c_odd c_even c_taped c_outs c_isFound f_g) H locs → ∀ ls : Array Slot, lv_has ls 10 [(0, .ref th), (1, .int x1), (2, .int x2), (3, .int x3), (4, .int x4), (5, .int x5), (7, .int x7)] → fX7_adapts_b133   x1 x2 x3 x4 x5 x7 s0 f_g = some res → W p l e (pq_rm 1 23) s m args below meth c H locs 0 0 Q (F0 m 133 ls [.int s0]) := by
    intro x1 x2 x3 x4 x5 x7 s0 f_g H locs hh ls hl hf
    rw [fX7_adapts_b133] at hf
    refine lv_istore (lv' := [(8, .int s0), (0, .ref th), (1, .int x1), (2, .int x2), (3, .int x3), (4, .int x4), (5, .int x5), (7, .int x7)]) hx hb dX7_adapts_133 hl (by decide) rfl (fun ls hl => ?_)
    refine lv_iload hx hb dX7_adapts_135 (lv_at hl 7 rfl) ?_
    refine lv_if_eq (tgt := 146) hx hb dX7_adapts_137 (by decide) (fun h26 => ?_) (fun h26 => ?_)
    · have hf := pq_brt hf h26
      refine lv_sipush (v := (12416 : Int32)) hx hb dX7_adapts_146 (by decide) ?_
      exact J149 x1 x2 x3 x4 x5 x7 s0 (12416 : Int32) f_g _ _ hh ls (lv_sub hl [1, 2, 3, 4, 5, 6, 7, 0] rfl) hf
    · have hf := pq_brf hf h26
      refine lv_sipush (v := (12160 : Int32)) hx hb dX7_adapts_140 (by decide) ?_
      refine lv_goto (tgt := 149) hx hb dX7_adapts_143 (by decide) ?_
      exact J149 x1 x2 x3 x4 x5 x7 s0 (12160 : Int32) f_g _ _ hh ls (lv_sub hl [1, 2, 3, 4, 5, 6, 7, 0] rfl) hf
  have J117 : ∀ (x1 : Int32) (x2 : Int32) (x3 : Int32) (x4 : Int32) (x5 : Int32) (s0 : Int32) (f_g : Nat → Int32) (H : Heap) (locs : List Loc), pq_H D A s (wX7_adapts cI th ad c_told c_sumZ c_sumE c_stepY c_odd c_even c_taped c_outs c_isFound f_g) H locs → ∀ ls : Array Slot, lv_has ls 10 [(0, .ref th), (1, .int x1), (2, .int x2), (3, .int x3), (4, .int x4), (5, .int x5)] → fX7_adapts_b117   x1 x2 x3 x4 x5 s0 f_g = some res → W p l e (pq_rm 1 23) s m args below meth c H locs 0 0 Q (F0 m 117 ls [.int s0]) := by
    intro x1 x2 x3 x4 x5 s0 f_g H locs hh ls hl hf
    rw [fX7_adapts_b117] at hf
    refine lv_istore (lv' := [(7, .int s0), (0, .ref th), (1, .int x1), (2, .int x2), (3, .int x3), (4, .int x4), (5, .int x5)]) hx hb dX7_adapts_117 hl (by decide) rfl (fun ls hl => ?_)
    refine lv_iload hx hb dX7_adapts_119 (lv_at hl 0 rfl) ?_
    refine lv_if_eq (tgt := 130) hx hb dX7_adapts_121 (by decide) (fun h25 => ?_) (fun h25 => ?_)
    · have hf := pq_brt hf h25
      refine lv_sipush (v := (-12160 : Int32)) hx hb dX7_adapts_130 (by decide) ?_
      exact J133 x1 x2 x3 x4 x5 s0 (-12160 : Int32) f_g _ _ hh ls (lv_sub hl [1, 2, 3, 4, 5, 6, 0] rfl) hf
    · have hf := pq_brf hf h25
      refine lv_sipush (v := (-12416 : Int32)) hx hb dX7_adapts_124 (by decide) ?_
      refine lv_goto (tgt := 133) hx hb dX7_adapts_127 (by decide) ?_
      exact J133 x1 x2 x3 x4 x5 s0 (-12416 : Int32) f_g _ _ hh ls (lv_sub hl [1, 2, 3, 4, 5, 6, 0] rfl) hf
  have J96 : ∀ (x1 : Int32) (x2 : Int32) (x3 : Int32) (x4 : Int32) (s0 : Int32) (s1 : Int32) (f_g : Nat → Int32) (H : Heap) (locs : List Loc), pq_H D A s (wX7_adapts cI th ad c_told c_sumZ c_sumE c_stepY c_odd c_even c_taped c_outs c_isFound f_g) H locs → ∀ ls : Array Slot, lv_has ls 10 [(0, .ref th), (1, .int x1), (2, .int x2), (3, .int x3), (4, .int x4)] → fX7_adapts_b96   x1 x2 x3 x4 s0 s1 f_g = some res → W p l e (pq_rm 1 23) s m args below meth c H locs 0 0 Q (F0 m 96 ls [.int s1, .int s0]) := by
    intro x1 x2 x3 x4 s0 s1 f_g H locs hh ls hl hf
    rw [fX7_adapts_b96] at hf
    refine lv_iadd hx hb dX7_adapts_96 ?_
    refine lv_topi (fun v19 e20 => ?_)
    have hf := pq_nmx hf v19 e20
    refine lv_istore (lv' := [(5, .int v19), (0, .ref th), (1, .int x1), (2, .int x2), (3, .int x3), (4, .int x4)]) hx hb dX7_adapts_97 hl (by decide) rfl (fun ls hl => ?_)
    refine lv_iload_n hx hb dX7_adapts_99 rfl (lv_at hl 3 rfl) ?_
    refine lv_aload_n hx hb dX7_adapts_100 rfl (lv_at hl 1 rfl) ?_
    refine pq_get C hh i7 0 6 rfl rfl 3 (by decide) kf17 rfl rfl dX7_adapts_101 ?_
    refine lv_iload_n hx hb dX7_adapts_104 rfl (lv_at hl 2 rfl) ?_
    refine lv_bipush (v := (23 : Int32)) hx hb dX7_adapts_105 (by decide) ?_
    refine lv_iadd hx hb dX7_adapts_107 ?_
    obtain ⟨h21, hf⟩ := pq_rdx hf
    refine pq_iald C hh 1 rfl h21 dX7_adapts_108 (fun v22 e23 => ?_)
    have hf := hf v22 e23
    refine lv_icmp_ne (tgt := 116) hx hb dX7_adapts_109 (by decide) (fun h24 => ?_) (fun h24 => ?_)
    · have hf := pq_brf hf h24
      refine lv_iconst (v := (0 : Int32)) hx hb dX7_adapts_116 (by decide) ?_
      exact J117 x1 x2 x3 x4 v19 (0 : Int32) f_g _ _ hh ls (lv_sub hl [1, 2, 3, 4, 5, 0] rfl) hf
    · have hf := pq_brt hf h24
      refine lv_iconst (v := (1 : Int32)) hx hb dX7_adapts_112 (by decide) ?_
      refine lv_goto (tgt := 117) hx hb dX7_adapts_113 (by decide) ?_
      exact J117 x1 x2 x3 x4 v19 (1 : Int32) f_g _ _ hh ls (lv_sub hl [1, 2, 3, 4, 5, 0] rfl) hf
  have J60 : ∀ (x1 : Int32) (x2 : Int32) (x3 : Int32) (x4 : Int32) (x5 : Int32) (s0 : Int32) (f_g : Nat → Int32) (H : Heap) (locs : List Loc), pq_H D A s (wX7_adapts cI th ad c_told c_sumZ c_sumE c_stepY c_odd c_even c_taped c_outs c_isFound f_g) H locs → ∀ ls : Array Slot, lv_has ls 10 [(0, .ref th), (1, .int x1), (2, .int x2), (3, .int x3), (4, .int x4), (5, .int x5)] → fX7_adapts_b60   x1 x2 x3 x4 x5 s0 f_g = some res → W p l e (pq_rm 1 23) s m args below meth c H locs 0 0 Q (F0 m 60 ls [.int s0]) := by
    intro x1 x2 x3 x4 x5 s0 f_g H locs hh ls hl hf
    rw [fX7_adapts_b60] at hf
    refine lv_istore (lv' := [(6, .int s0), (0, .ref th), (1, .int x1), (2, .int x2), (3, .int x3), (4, .int x4), (5, .int x5)]) hx hb dX7_adapts_60 hl (by decide) rfl (fun ls hl => ?_)
    refine lv_iload hx hb dX7_adapts_62 (lv_at hl 6 rfl) ?_
    refine lv_iload hx hb dX7_adapts_64 (lv_at hl 0 rfl) ?_
    refine lv_sipush (v := (-8191 : Int32)) hx hb dX7_adapts_66 (by decide) ?_
    refine lv_icmp_ge (tgt := 78) hx hb dX7_adapts_69 (by decide) (fun h17 => ?_) (fun h17 => ?_)
    · have hf := pq_brt hf h17
      refine lv_iload hx hb dX7_adapts_78 (lv_at hl 0 rfl) ?_
      refine lv_sipush (v := (8191 : Int32)) hx hb dX7_adapts_80 (by decide) ?_
      refine lv_icmp_le (tgt := 92) hx hb dX7_adapts_83 (by decide) (fun h18 => ?_) (fun h18 => ?_)
      · have hf := pq_brt hf h18
        refine lv_iload hx hb dX7_adapts_92 (lv_at hl 0 rfl) ?_
        refine lv_iconst (v := (5 : Int32)) hx hb dX7_adapts_94 (by decide) ?_
        refine lv_ishr hx hb dX7_adapts_95 ?_
        exact J96 x1 x2 x3 x4 x5 (s0 >>> ((5 : Int32) &&& 31)) f_g _ _ hh ls (lv_sub hl [1, 2, 3, 4, 5] rfl) hf
      · have hf := pq_brf hf h18
        refine lv_sipush (v := (255 : Int32)) hx hb dX7_adapts_86 (by decide) ?_
        refine lv_goto (tgt := 96) hx hb dX7_adapts_89 (by decide) ?_
        exact J96 x1 x2 x3 x4 x5 (255 : Int32) f_g _ _ hh ls (lv_sub hl [1, 2, 3, 4, 5] rfl) hf
    · have hf := pq_brf hf h17
      refine lv_sipush (v := (-256 : Int32)) hx hb dX7_adapts_72 (by decide) ?_
      refine lv_goto (tgt := 96) hx hb dX7_adapts_75 (by decide) ?_
      exact J96 x1 x2 x3 x4 x5 (-256 : Int32) f_g _ _ hh ls (lv_sub hl [1, 2, 3, 4, 5] rfl) hf
  rw [fX7_adapts] at hf
  refine lv_aload_n hx hb dX7_adapts_0 rfl (lv_at hl 0 rfl) ?_
  refine pq_get C hh i7 0 6 rfl rfl 3 (by decide) kf17 rfl rfl dX7_adapts_1 ?_
  refine lv_iload_n hx hb dX7_adapts_4 rfl (lv_at hl 1 rfl) ?_
  refine lv_bipush (v := (6 : Int32)) hx hb dX7_adapts_5 (by decide) ?_
  refine lv_iadd hx hb dX7_adapts_7 ?_
  obtain ⟨h1, hf⟩ := pq_rdx hf
  refine pq_iald C hh 1 rfl h1 dX7_adapts_8 (fun v2 e3 => ?_)
  have hf := hf v2 e3
  refine lv_istore (lv' := [(4, .int v2), (0, .ref th), (1, .int a1), (2, .int a2), (3, .int a3)]) hx hb dX7_adapts_9 hl (by decide) rfl (fun ls hl => ?_)
  refine lv_aload_n hx hb dX7_adapts_11 rfl (lv_at hl 1 rfl) ?_
  refine pq_get C hh i7 0 6 rfl rfl 3 (by decide) kf17 rfl rfl dX7_adapts_12 ?_
  refine lv_iload_n hx hb dX7_adapts_15 rfl (lv_at hl 2 rfl) ?_
  refine lv_bipush (v := (7 : Int32)) hx hb dX7_adapts_16 (by decide) ?_
  refine lv_iadd hx hb dX7_adapts_18 ?_
  obtain ⟨h4, hf⟩ := pq_rdx hf
  refine pq_iald C hh 1 rfl h4 dX7_adapts_19 (fun v5 e6 => ?_)
  have hf := hf v5 e6
  refine lv_aload_n hx hb dX7_adapts_20 rfl (lv_at hl 1 rfl) ?_
  refine pq_get C hh i7 0 6 rfl rfl 3 (by decide) kf17 rfl rfl dX7_adapts_21 ?_
  refine lv_iload_n hx hb dX7_adapts_24 rfl (lv_at hl 2 rfl) ?_
  refine lv_bipush (v := (7 : Int32)) hx hb dX7_adapts_25 (by decide) ?_
  refine lv_iadd hx hb dX7_adapts_27 ?_
  obtain ⟨h7, hf⟩ := pq_rdx hf
  refine pq_iald C hh 1 rfl h7 dX7_adapts_28 (fun v8 e9 => ?_)
  have hf := hf v8 e9
  refine lv_bipush (v := (7 : Int32)) hx hb dX7_adapts_29 (by decide) ?_
  refine lv_ishr hx hb dX7_adapts_31 ?_
  refine lv_isub hx hb dX7_adapts_32 ?_
  refine lv_topi (fun v10 e11 => ?_)
  have hf := pq_nmx hf v10 e11
  refine lv_istore (lv' := [(5, .int v10), (4, .int v2), (0, .ref th), (1, .int a1), (2, .int a2), (3, .int a3)]) hx hb dX7_adapts_33 hl (by decide) rfl (fun ls hl => ?_)
  refine lv_iload_n hx hb dX7_adapts_35 rfl (lv_at hl 5 rfl) ?_
  refine lv_if_eq (tgt := 203) hx hb dX7_adapts_36 (by decide) (fun h12 => ?_) (fun h12 => ?_)
  · have hf := pq_brt hf h12
    exact J203 a1 a2 a3 v2 v10 f_g _ _ hh ls (lv_sub hl [2, 3, 4, 5, 1, 0] rfl) hf
  · have hf := pq_brf hf h12
    refine lv_iload_n hx hb dX7_adapts_39 rfl (lv_at hl 4 rfl) ?_
    refine lv_aload_n hx hb dX7_adapts_40 rfl (lv_at hl 2 rfl) ?_
    refine pq_get C hh i7 0 6 rfl rfl 3 (by decide) kf17 rfl rfl dX7_adapts_41 ?_
    refine lv_iload_n hx hb dX7_adapts_44 rfl (lv_at hl 3 rfl) ?_
    refine lv_bipush (v := (22 : Int32)) hx hb dX7_adapts_45 (by decide) ?_
    refine lv_iadd hx hb dX7_adapts_47 ?_
    obtain ⟨h13, hf⟩ := pq_rdx hf
    refine pq_iald C hh 1 rfl h13 dX7_adapts_48 (fun v14 e15 => ?_)
    have hf := hf v14 e15
    refine lv_icmp_eq (tgt := 57) hx hb dX7_adapts_49 (by decide) (fun h16 => ?_) (fun h16 => ?_)
    · have hf := pq_brt hf h16
      refine lv_iload hx hb dX7_adapts_57 (lv_at hl 1 rfl) ?_
      refine lv_ineg hx hb dX7_adapts_59 ?_
      exact J60 a1 a2 a3 v2 v10 (-v2) f_g _ _ hh ls (lv_sub hl [2, 3, 4, 5, 1, 0] rfl) hf
    · have hf := pq_brf hf h16
      refine lv_iload hx hb dX7_adapts_52 (lv_at hl 1 rfl) ?_
      refine lv_goto (tgt := 60) hx hb dX7_adapts_54 (by decide) ?_
      exact J60 a1 a2 a3 v2 v10 v2 f_g _ _ hh ls (lv_sub hl [2, 3, 4, 5, 1, 0] rfl) hf
set_option maxHeartbeats 4000000 in
set_option maxRecDepth 100000 in
theorem qX7_floated (l : Launch) (D : va_G) (cI cL : ClassId) (th : Nat) (ad : Nat → Nat) (c_told : Int32) (c_sumZ : Int32) (c_sumE : Int32) (c_stepY : Int32) (c_odd : Int32) (c_even : Int32) (c_taped : Int32) (c_outs : Int32) (c_isFound : Int32) (a1 : Int32) (a2 : Int32) (res : Int32) (hf : fX7_floated a1 a2 = some res) : pq_CI l yX7_floated qsX7_floated 1 22 D cI cL [.ref th, .int a1, .int a2] (wX7_floated cI th ad c_told c_sumZ c_sumE c_stepY c_odd c_even c_taped c_outs c_isFound) (wX7_floated cI th ad c_told c_sumZ c_sumE c_stepY c_odd c_even c_taped c_outs c_isFound) res := by
  refine pq_mkI (cc := cX7_floated) (maxL := 5) (RT := .int) (by decide) rfl (Nat.le_of_ble_eq_true rfl) ?_
  intro p e s m args below meth c Q A C hh hret ls hl
  have hx := C.1
  have hb := C.2.1
  have hml := C.2.2.1
  have hown : s.vm.findClass RX7 = some m.cls := C.2.2.2.1
  have hs : ∀ w ∈ wsL_law, w ∈ qsX7_floated := fun _ h => List.mem_cons_of_mem _ h
  have htw : ∀ w ∈ wsL_law, w.before args s = true := fun w h => C.2.2.2.2.1 w (hs w h)
  have hl : lv_has ls 5 [(0, .ref th), (1, .int a1), (2, .int a2)] := hl
  have J26 : ∀ (x2 : Int32) (s0 : Int32) (H : Heap) (locs : List Loc), pq_H D A s (wX7_floated cI th ad c_told c_sumZ c_sumE c_stepY c_odd c_even c_taped c_outs c_isFound) H locs → ∀ ls : Array Slot, lv_has ls 5 [(2, .int x2)] → fX7_floated_b26   x2 s0 = some res → W p l e (pq_rm 1 22) s m args below meth c H locs 0 0 Q (F0 m 26 ls [.int s0]) := by
    intro x2 s0 H locs hh ls hl hf
    rw [fX7_floated_b26] at hf
    refine lv_istore (lv' := [(4, .int s0), (2, .int x2)]) hx hb dX7_floated_26 hl (by decide) rfl (fun ls hl => ?_)
    refine lv_iload_n hx hb dX7_floated_28 rfl (lv_at hl 1 rfl) ?_
    refine lv_if_eq (tgt := 41) hx hb dX7_floated_29 (by decide) (fun h4 => ?_) (fun h4 => ?_)
    · have hf := pq_brt hf h4
      refine lv_iload hx hb dX7_floated_41 (lv_at hl 0 rfl) ?_
      obtain rfl := Option.some.inj hf
      exact hret _ _ _ ls hh dX7_floated_43 rfl
    · have hf := pq_brf hf h4
      refine lv_iload hx hb dX7_floated_32 (lv_at hl 0 rfl) ?_
      refine lv_sipush (v := (1024 : Int32)) hx hb dX7_floated_34 (by decide) ?_
      refine lv_isub hx hb dX7_floated_37 ?_
      refine lv_goto (tgt := 43) hx hb dX7_floated_38 (by decide) ?_
      obtain rfl := Option.some.inj hf
      exact hret _ _ _ ls hh dX7_floated_43 rfl
  rw [fX7_floated] at hf
  refine lv_aload_n hx hb dX7_floated_0 rfl (lv_at hl 0 rfl) ?_
  refine lv_iload_n hx hb dX7_floated_1 rfl (lv_at hl 1 rfl) ?_
  obtain ⟨r1, hu2, hf⟩ := pq_clx hf
  refine pq_cvI (n := 1) (As := [.int a1]) C hh (qX7_size l D cI cL th a1 r1 hu2) (gvX7_size hs (pq_m17 _ (List.mem_of_getElem? (i := 15) rfl))) rfl (by decide +kernel) ⟨Nat.le_of_ble_eq_true rfl, Nat.le_of_ble_eq_true rfl⟩ 0 6 rfl rfl rfl hl.1 rfl rfl (Nat.le_of_ble_eq_true rfl) dX7_floated_2 ⟨Nat.zero_le _, Nat.zero_le _⟩ [] [0] [0] rfl rfl (by decide) (by decide) (by decide) rfl (fun H locs (hh : pq_H D A s (wX7_floated cI th ad c_told c_sumZ c_sumE c_stepY c_odd c_even c_taped c_outs c_isFound) H locs) => ?_)
  refine lv_istore_n (lv' := [(3, .int r1), (0, .ref th), (1, .int a1), (2, .int a2)]) hx hb dX7_floated_5 rfl hl (by decide) rfl (fun ls hl => ?_)
  refine lv_iload_n hx hb dX7_floated_6 rfl (lv_at hl 2 rfl) ?_
  refine lv_if_ne (tgt := 15) hx hb dX7_floated_7 (by decide) (fun h3 => ?_) (fun h3 => ?_)
  · have hf := pq_brf hf h3
    refine lv_bipush (v := (64 : Int32)) hx hb dX7_floated_15 (by decide) ?_
    refine lv_iload_n hx hb dX7_floated_17 rfl (lv_at hl 0 rfl) ?_
    refine lv_imul hx hb dX7_floated_18 ?_
    refine lv_bipush (v := (64 : Int32)) hx hb dX7_floated_19 (by decide) ?_
    refine lv_iload_n hx hb dX7_floated_21 rfl (lv_at hl 2 rfl) ?_
    refine lv_imul hx hb dX7_floated_22 ?_
    refine lv_iload_n hx hb dX7_floated_23 rfl (lv_at hl 0 rfl) ?_
    refine lv_ishr hx hb dX7_floated_24 ?_
    refine lv_iadd hx hb dX7_floated_25 ?_
    exact J26 a2 (((64 : Int32) * r1) + (((64 : Int32) * a1) >>> (r1 &&& 31))) _ _ hh ls (lv_sub hl [3] rfl) hf
  · have hf := pq_brt hf h3
    refine lv_bipush (v := (32 : Int32)) hx hb dX7_floated_10 (by decide) ?_
    refine lv_goto (tgt := 26) hx hb dX7_floated_12 (by decide) ?_
    exact J26 a2 (32 : Int32) _ _ hh ls (lv_sub hl [3] rfl) hf
